/-! PURE 13: what a step leaves as it was; two states that agree -/
def Eqc (P : Nat → Prop) (h h2 : dnH) : Prop := h2.1 = h.1 ∧ h2.2.2.2.2 = h.2.2.2.2 ∧ ∀ a, P a → h2.2.1 a = h.2.1 a ∧ h2.2.2.1 a = h.2.2.1 a ∧ h2.2.2.2.1 a = h.2.2.2.1 a
theorem Eqc.rf {P : Nat → Prop} {h : dnH} : Eqc P h h := ⟨rfl, rfl, fun _ _ => ⟨rfl, rfl, rfl⟩⟩
theorem Eqc.tr {P : Nat → Prop} {h h2 h3 : dnH} (a : Eqc P h h2) (b : Eqc P h2 h3) : Eqc P h h3 :=
  ⟨b.1.trans a.1, b.2.1.trans a.2.1, fun x hx => ⟨(b.2.2 x hx).1.trans (a.2.2 x hx).1, (b.2.2 x hx).2.1.trans (a.2.2 x hx).2.1, (b.2.2 x hx).2.2.trans (a.2.2 x hx).2.2⟩⟩
theorem Eqc.im {P Q : Nat → Prop} {h h2 : dnH} (a : Eqc P h h2) (hq : ∀ x, Q x → P x) : Eqc Q h h2 := ⟨a.1, a.2.1, fun x hx => a.2.2 x (hq x hx)⟩
theorem dnUp_row {α : Type} {f : Nat → Nat → α} {a k x : Nat} {v : α} (h : x ≠ a) : dnUp f a k v x = f x := by
  funext y
  exact dnUp_neA h
theorem dnUpA_row {α : Type} {f : Nat → Nat → α} {a x : Nat} {g : Nat → α} (h : x ≠ a) : dnUpA f a g x = f x := if_neg h
theorem eqc_SI {P : Nat → Prop} {h : dnH} {a k : Nat} {v : Int32} (hp : ¬ P a) : Eqc P h (dnSI h a k v) := ⟨rfl, rfl, fun x hx => ⟨dnUp_row (fun e => hp (e ▸ hx)), rfl, rfl⟩⟩
theorem eqc_SL {P : Nat → Prop} {h : dnH} {a k : Nat} {v : Int64} (hp : ¬ P a) : Eqc P h (dnSL h a k v) := ⟨rfl, rfl, fun x hx => ⟨rfl, dnUp_row (fun e => hp (e ▸ hx)), rfl⟩⟩
theorem eqc_SD {P : Nat → Prop} {h : dnH} {a k : Nat} {v : UInt64} (hp : ¬ P a) : Eqc P h (dnSD h a k v) := ⟨rfl, rfl, fun x hx => ⟨rfl, rfl, dnUp_row (fun e => hp (e ▸ hx))⟩⟩
theorem eqc_flI {P : Nat → Prop} {h : dnH} {a n : Nat} {v : Int32} (hp : ¬ P a) : Eqc P h (flI h a n v) := ⟨rfl, rfl, fun x hx => ⟨dnUpA_row (fun e => hp (e ▸ hx)), rfl, rfl⟩⟩
theorem eqc_flL {P : Nat → Prop} {h : dnH} {a n : Nat} {v : Int64} (hp : ¬ P a) : Eqc P h (flL h a n v) := ⟨rfl, rfl, fun x hx => ⟨rfl, dnUpA_row (fun e => hp (e ▸ hx)), rfl⟩⟩
theorem eqc_flD {P : Nat → Prop} {h : dnH} {a n : Nat} {v : UInt64} (hp : ¬ P a) : Eqc P h (flD h a n v) := ⟨rfl, rfl, fun x hx => ⟨rfl, rfl, dnUpA_row (fun e => hp (e ▸ hx))⟩⟩
theorem eqc_wr {P : Nat → Prop} {h : dnH} {a i : Nat} {s : Int32} {n : Int64} {d : UInt64} (h1 : ¬ P (a + 1)) (h2 : ¬ P (a + 2)) (h3 : ¬ P (a + 3)) : Eqc P h (wr h a i s n d) := ((eqc_SI h1).tr (eqc_SL h2)).tr (eqc_SD h3)
theorem eqc_rowBeg {P : Nat → Prop} {h : dnH} {a kd : Nat} {n : Int32} (h0 : ¬ P a) (h1 : ¬ P (a + 1)) (h2 : ¬ P (a + 2)) (h3 : ¬ P (a + 3)) : Eqc P h (rowBeg h a kd n) := ((((eqc_SI h0).tr (eqc_SI h0)).tr (eqc_flI h1)).tr (eqc_flL h2)).tr (eqc_flD h3)
theorem eqc_setV {P : Nat → Prop} {h : dnH} {s : Int32} {n : Int64} {d : UInt64} (h1 : ¬ P 289) : Eqc P h (setV h s n d) := ((eqc_SI h1).tr (eqc_SL h1)).tr (eqc_SD h1)
theorem eqc_wrR {P : Nat → Prop} {h : dnH} {x : Nat} {s : Int32} {n : Int64} {d : UInt64} (h1 : ¬ P 296) (h2 : ¬ P 297) (h3 : ¬ P 298) : Eqc P h (wrR h x s n d) := ((eqc_SI h1).tr (eqc_SL h2)).tr (eqc_SD h3)
theorem Eqc.sh {P : Nat → Prop} {h h2 : dnH} (e : Eqc P h h2) (hs : Sh h) : Sh h2 := by
  obtain ⟨h0, h1, h3⟩ := h
  obtain ⟨g0, g1, g2, g3, g4⟩ := h2
  obtain ⟨e1, e2, -⟩ := e
  dsimp only at e1 e2
  subst e1
  subst e2
  exact hs
/-- a state's own part: places, what they hold, rows -/
abbrev Vw : Type := (Nat → Int32) × (Nat → Int32) × (Nat → Int32) × (Nat → Int32) × (Nat → Nat → Int32) × (Nat → Nat → Int64) × (Nat → Nat → UInt64)
def vS (h : dnH) (s : Nat) : Vw := (h.2.1 (s + 1), h.2.1 (s + 2), fun r => h.2.1 (s + 4 + 4 * r) 1, fun r => h.2.1 (s + 4 + 4 * r) 2, fun r => h.2.1 (s + 4 + 4 * r + 1), fun r => h.2.2.1 (s + 4 + 4 * r + 2), fun r => h.2.2.2.1 (s + 4 + 4 * r + 3))
def vR (h : dnH) : Vw := (h.2.1 291, h.2.1 292, h.2.1 293, h.2.1 294, fun r i => h.2.1 296 (12 * r + i), fun r i => h.2.2.1 297 (12 * r + i), fun r i => h.2.2.2.1 298 (12 * r + i))
def vK (h : dnH) (k : Nat) : Vw := (fun g => h.2.1 309 (4 * k + g), fun q => h.2.1 310 (24 * k + q), fun r => h.2.1 311 (32 * k + r), fun r => h.2.1 312 (32 * k + r), fun r i => h.2.1 313 (384 * k + (12 * r + i)), fun r i => h.2.2.1 314 (384 * k + (12 * r + i)), fun r i => h.2.2.2.1 315 (384 * k + (12 * r + i)))
/-- a row of both: the same kind, length, cells, and well -/
def rowRel (B : Nat) (c r : Vw) (n : Nat) : Prop := ∃ kd ln : Nat, kd < 12 ∧ ln ≤ 12 ∧ c.2.2.1 n = nI kd ∧ c.2.2.2.1 n = nI ln ∧ r.2.2.1 n = nI kd ∧ r.2.2.2.1 n = nI ln ∧ ∀ i, i < 12 → cellOk B kd (c.2.2.2.2.1 n i) (c.2.2.2.2.2.1 n i) (c.2.2.2.2.2.2 n i) ∧ r.2.2.2.2.1 n i = c.2.2.2.2.1 n i ∧ r.2.2.2.2.2.1 n i = c.2.2.2.2.2.1 n i ∧ r.2.2.2.2.2.2 n i = c.2.2.2.2.2.2 n i
def stRel (B : Nat) (c r : Vw) : Prop := (∀ g, g < 4 → plOk (c.1 g) ∧ r.1 g = c.1 g) ∧ (∀ k, k < 24 → hR (r.2.1 k) (c.2.1 k)) ∧ (∀ g, g < 4 → ∀ p, p < 6 → c.1 g ≤ nI p → c.2.1 (6 * g + p) = -14) ∧ ∀ k, k < 24 → ∀ n, n < 31 → c.2.1 k = nI n → rowRel B c r n
def ntRel (h : dnH) : Prop := h.2.2.1 258 0 = h.2.2.1 289 1 ∧ h.2.1 258 1 = h.2.1 289 2 ∧ h.2.1 258 2 = h.2.1 289 3
def rfRel (h : dnH) : Prop := ∀ i, i < 11 → h.2.1 288 i = h.2.1 290 i
def txRel (h : dnH) : Prop := ∃ n : Nat, n ≤ 80 ∧ h.2.1 281 1 = nI n ∧ h.2.1 289 37 = nI n ∧ ∀ i, i < n → ∃ x : Nat, x < 256 ∧ h.2.1 282 i = nI x ∧ h.2.1 316 i = nI x
def gsRel (h : dnH) : Prop := ∃ n : Nat, n ≤ 6 ∧ h.2.1 285 3 = nI n ∧ h.2.1 289 43 = nI n ∧ ∀ i, i < n → ∃ a t : Nat, a < 28 ∧ t < 2 ∧ h.2.1 286 i = nI a ∧ h.2.1 319 i = nI a ∧ h.2.1 287 i = nI t ∧ h.2.1 320 i = nI t
/-- an image: in neither, or in both and alike -/
def imRel (B : Nat) (h : dnH) (k : Nat) : Prop := (h.2.2.2.2 257 k = none ∧ h.2.1 308 k = 0) ∨ ∃ s : Nat, 321 ≤ s ∧ s + 128 ≤ h.1.length ∧ h.2.2.2.2 257 k = some s ∧ StAt h s ∧ h.2.1 308 k = 1 ∧ stRel B (vS h s) (vK h k) ∧ ∀ p, p < 6 → h.2.1 (s + 2) (24 + p) = -14
def imDis (h : dnH) : Prop := ∀ s t : Nat, h.2.2.2.2 257 0 = some s → h.2.2.2.2 257 1 = some t → s + 128 ≤ t ∨ t + 128 ≤ s
/-- between two calls -/
def Rel (B : Nat) (h : dnH) : Prop := Sh h ∧ 321 ≤ h.1.length ∧ (∀ r, r < 31 → h.2.1 (5 + 4 * r) 0 = nI r) ∧ (∀ p, p < 6 → h.2.1 3 (24 + p) = -14) ∧ (∀ r, r < 32 → h.2.1 295 r = 0) ∧ stRel B (vS h 1) (vR h) ∧ ntRel h ∧ rfRel h ∧ txRel h ∧ gsRel h ∧ imRel B h 0 ∧ imRel B h 1 ∧ imDis h
/-- the reference's own fields that stay between calls -/
def E9 (h h2 : dnH) : Prop := h2.2.2.1 289 1 = h.2.2.1 289 1 ∧ h2.2.1 289 2 = h.2.1 289 2 ∧ h2.2.1 289 3 = h.2.1 289 3 ∧ h2.2.1 289 37 = h.2.1 289 37 ∧ (h2.2.1 289 43, h2.2.1 289 40) = (h.2.1 289 43, h.2.1 289 40)
theorem E9.rf {h : dnH} : E9 h h := ⟨rfl, rfl, rfl, rfl, rfl⟩
theorem E9.tr {h h2 h3 : dnH} (a : E9 h h2) (b : E9 h2 h3) : E9 h h3 := ⟨b.1.trans a.1, b.2.1.trans a.2.1, b.2.2.1.trans a.2.2.1, b.2.2.2.1.trans a.2.2.2.1, b.2.2.2.2.trans a.2.2.2.2⟩
theorem Eqc.e9 {P : Nat → Prop} {h h2 : dnH} (e : Eqc P h h2) (p : P 289) : E9 h h2 := by
  obtain ⟨a1, a2, -⟩ := e.2.2 289 p
  unfold E9
  rw [a1, a2]
  exact ⟨rfl, rfl, rfl, rfl, rfl⟩
theorem e9_setV {h : dnH} {s : Int32} {n : Int64} {d : UInt64} : E9 h (setV h s n d) :=
  ⟨dnUp_neK (f := h.2.2.1) (a := 289) (k := 13) (x := 289) (y := 1) (v := n) (by decide), dnUp_neK (f := h.2.1) (a := 289) (k := 12) (x := 289) (y := 2) (v := s) (by decide), dnUp_neK (f := h.2.1) (a := 289) (k := 12) (x := 289) (y := 3) (v := s) (by decide), dnUp_neK (f := h.2.1) (a := 289) (k := 12) (x := 289) (y := 37) (v := s) (by decide), Prod.ext (dnUp_neK (f := h.2.1) (a := 289) (k := 12) (x := 289) (y := 43) (v := s) (by decide)) (dnUp_neK (f := h.2.1) (a := 289) (k := 12) (x := 289) (y := 40) (v := s) (by decide))⟩
theorem ntRel.go {P : Nat → Prop} {h h2 : dnH} (e : Eqc P h h2) (p1 : P 258) (e9 : E9 h h2) (a : ntRel h) : ntRel h2 := by
  obtain ⟨a1, a2, a3⟩ := a
  unfold ntRel
  rw [(e.2.2 258 p1).1, (e.2.2 258 p1).2.1, e9.1, e9.2.1, e9.2.2.1]
  exact ⟨a1, a2, a3⟩
theorem rfRel.go {P : Nat → Prop} {h h2 : dnH} (e : Eqc P h h2) (p1 : P 288) (p2 : P 290) (a : rfRel h) : rfRel h2 := by
  unfold rfRel
  rw [(e.2.2 288 p1).1, (e.2.2 290 p2).1]
  exact a
theorem txRel.go {P : Nat → Prop} {h h2 : dnH} (e : Eqc P h h2) (p1 : P 281) (e9 : E9 h h2) (p3 : P 282) (p4 : P 316) (a : txRel h) : txRel h2 := by
  unfold txRel
  rw [(e.2.2 281 p1).1, e9.2.2.2.1, (e.2.2 282 p3).1, (e.2.2 316 p4).1]
  exact a
theorem gsRel.go {P : Nat → Prop} {h h2 : dnH} (e : Eqc P h h2) (p1 : P 285) (e9 : E9 h h2) (p3 : P 286) (p4 : P 287) (p5 : P 319) (p6 : P 320) (a : gsRel h) : gsRel h2 := by
  unfold gsRel
  rw [(e.2.2 285 p1).1, (Prod.mk.inj e9.2.2.2.2).1, (e.2.2 286 p3).1, (e.2.2 287 p4).1, (e.2.2 319 p5).1, (e.2.2 320 p6).1]
  exact a
theorem rowRel.mono {B B2 n : Nat} {c r : Vw} (h : rowRel B c r n) (hB : B ≤ B2) : rowRel B2 c r n := by
  obtain ⟨kd, ln, h1, h2, h3, h4, h5, h6, h7⟩ := h
  exact ⟨kd, ln, h1, h2, h3, h4, h5, h6, fun i hi => ⟨(h7 i hi).1.mono hB, (h7 i hi).2⟩⟩
theorem stRel.mono {B B2 : Nat} {c r : Vw} (h : stRel B c r) (hB : B ≤ B2) : stRel B2 c r := ⟨h.1, h.2.1, h.2.2.1, fun k hk n hn e => (h.2.2.2 k hk n hn e).mono hB⟩
theorem imRel.mono {B B2 k : Nat} {h : dnH} (a : imRel B h k) (hB : B ≤ B2) : imRel B2 h k := by
  rcases a with a | ⟨s, h1, h2, h3, h4, h5, h6, h7⟩
  · exact .inl a
  · exact .inr ⟨s, h1, h2, h3, h4, h5, h6.mono hB, h7⟩
theorem Rel.mono {B B2 : Nat} {h : dnH} (a : Rel B h) (hB : B ≤ B2) : Rel B2 h := by
  obtain ⟨a1, a2, a3, a4, a5, a6, a7, a8, a9, b1, b2, b3, b4⟩ := a
  exact ⟨a1, a2, a3, a4, a5, a6.mono hB, a7, a8, a9, b1, b2.mono hB, b3.mono hB, b4⟩
theorem vS_go {P : Nat → Prop} {h h2 : dnH} {s : Nat} (e : Eqc P h h2) (p : ∀ x, s < x → x < s + 128 → P x) : (vS h2 s).1 = (vS h s).1 ∧ (vS h2 s).2.1 = (vS h s).2.1 ∧ ∀ n, n < 31 → (vS h2 s).2.2.1 n = (vS h s).2.2.1 n ∧ (vS h2 s).2.2.2.1 n = (vS h s).2.2.2.1 n ∧ (vS h2 s).2.2.2.2.1 n = (vS h s).2.2.2.2.1 n ∧ (vS h2 s).2.2.2.2.2.1 n = (vS h s).2.2.2.2.2.1 n ∧ (vS h2 s).2.2.2.2.2.2 n = (vS h s).2.2.2.2.2.2 n := by
  refine ⟨(e.2.2 _ (p _ (by omega) (by omega))).1, (e.2.2 _ (p _ (by omega) (by omega))).1, fun n hn => ⟨congrFun (e.2.2 _ (p _ (by omega) (by omega))).1 1, congrFun (e.2.2 _ (p _ (by omega) (by omega))).1 2, (e.2.2 _ (p _ (by omega) (by omega))).1, (e.2.2 _ (p _ (by omega) (by omega))).2.1, (e.2.2 _ (p _ (by omega) (by omega))).2.2⟩⟩
theorem imRel.go {P : Nat → Prop} {B k : Nat} {h h2 : dnH} (e : Eqc P h h2) (p1 : ∀ x, 308 ≤ x → x ≤ 315 → P x) (p2 : ∀ x, 321 ≤ x → P x) (a : imRel B h k) : imRel B h2 k := by
  have hK : vK h2 k = vK h k := by
    unfold vK
    rw [(e.2.2 309 (p1 _ (by decide) (by decide))).1, (e.2.2 310 (p1 _ (by decide) (by decide))).1, (e.2.2 311 (p1 _ (by decide) (by decide))).1, (e.2.2 312 (p1 _ (by decide) (by decide))).1, (e.2.2 313 (p1 _ (by decide) (by decide))).1, (e.2.2 314 (p1 _ (by decide) (by decide))).2.1, (e.2.2 315 (p1 _ (by decide) (by decide))).2.2]
  unfold imRel
  rw [e.1, e.2.1, (e.2.2 308 (p1 _ (by decide) (by decide))).1, hK]
  rcases a with a | ⟨s, h1, h2', h3, h4, h5, h6, h7⟩
  · exact .inl a
  · refine .inr ⟨s, h1, h2', h3, ?_, h5, ?_, fun q hq => by rw [(e.2.2 (s + 2) (p2 _ (by omega))).1]; exact h7 q hq⟩
    · unfold StAt RowAt
      rw [e.1, e.2.1]
      exact h4
    · obtain ⟨g1, g2, g3⟩ := vS_go (s := s) e (fun x hx _ => p2 x (by omega))
      obtain ⟨s1, s2, s3, s4⟩ := h6
      refine ⟨by rw [g1]; exact s1, by rw [g2]; exact s2, by rw [g1, g2]; exact s3, fun q hq n hn he => ?_⟩
      rw [g2] at he
      obtain ⟨kd, ln, r1, r2, r3, r4, r5, r6, r7⟩ := s4 q hq n hn he
      obtain ⟨t1, t2, t3, t4, t5⟩ := g3 n hn
      exact ⟨kd, ln, r1, r2, t1.trans r3, t2.trans r4, r5, r6, fun i hi => by rw [t3, t4, t5]; exact r7 i hi⟩
theorem imDis.go {P : Nat → Prop} {h h2 : dnH} (e : Eqc P h h2) (a : imDis h) : imDis h2 := by
  unfold imDis
  rw [e.2.1]
  exact a
