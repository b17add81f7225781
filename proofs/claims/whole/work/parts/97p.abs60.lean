/-! ABS 60: keep, back -/
theorem VwE.tr {a b c : Vw} (x : VwE a b) (y : VwE b c) : VwE a c := by
  obtain ⟨x1, x2, x3⟩ := x
  obtain ⟨y1, y2, y3⟩ := y
  refine ⟨fun g hg => (y1 g hg).trans (x1 g hg), fun k hk => (y2 k hk).trans (x2 k hk), fun n hn => ⟨(y3 n hn).1.trans (x3 n hn).1, (y3 n hn).2.1.trans (x3 n hn).2.1, fun i hi => ?_⟩⟩
  obtain ⟨u1, u2, u3⟩ := (x3 n hn).2.2 i hi
  obtain ⟨v1, v2, v3⟩ := (y3 n hn).2.2 i hi
  exact ⟨v1.trans u1, v2.trans u2, v3.trans u3⟩
theorem vwe_S {h h2 : dnH} {s : Nat} (e : ∀ x, s < x → x < s + 128 → h2.2.1 x = h.2.1 x ∧ h2.2.2.1 x = h.2.2.1 x ∧ h2.2.2.2.1 x = h.2.2.2.1 x) : VwE (vS h s) (vS h2 s) := by
  refine ⟨fun g hg => congrFun (e (s + 1) (by omega) (by omega)).1 g, fun k hk => congrFun (e (s + 2) (by omega) (by omega)).1 k, fun n hn => ⟨congrFun (e (s + 4 + 4 * n) (by omega) (by omega)).1 1, congrFun (e (s + 4 + 4 * n) (by omega) (by omega)).1 2, fun i hi => ⟨congrFun (e (s + 4 + 4 * n + 1) (by omega) (by omega)).1 i, congrFun (e (s + 4 + 4 * n + 2) (by omega) (by omega)).2.1 i, congrFun (e (s + 4 + 4 * n + 3) (by omega) (by omega)).2.2 i⟩⟩⟩
theorem vwe_R {h h2 : dnH} (e : ∀ x, 291 ≤ x → x ≤ 298 → h2.2.1 x = h.2.1 x ∧ h2.2.2.1 x = h.2.2.1 x ∧ h2.2.2.2.1 x = h.2.2.2.1 x) : VwE (vR h) (vR h2) :=
  ⟨fun g hg => congrFun (e 291 (by decide) (by decide)).1 g, fun k hk => congrFun (e 292 (by decide) (by decide)).1 k, fun n hn => ⟨congrFun (e 293 (by decide) (by decide)).1 n, congrFun (e 294 (by decide) (by decide)).1 n, fun i hi => ⟨congrFun (e 296 (by decide) (by decide)).1 _, congrFun (e 297 (by decide) (by decide)).2.1 _, congrFun (e 298 (by decide) (by decide)).2.2 _⟩⟩⟩
def Xt (P : Nat → Prop) (h h2 : dnH) : Prop := h.1.length ≤ h2.1.length ∧ ∀ a, a < h.1.length → h2.1[a]? = h.1[a]? ∧ (a ≠ 257 → h2.2.2.2.2 a = h.2.2.2.2 a) ∧ (P a → h2.2.1 a = h.2.1 a ∧ h2.2.2.1 a = h.2.2.1 a ∧ h2.2.2.2.1 a = h.2.2.2.1 a)
theorem Eqc.xt {P : Nat → Prop} {h h2 : dnH} (e : Eqc P h h2) : Xt P h h2 := ⟨by rw [e.1]; exact Nat.le_refl _, fun a _ => ⟨by rw [e.1], fun _ => by rw [e.2.1], fun hp => e.2.2 a hp⟩⟩
theorem ExH.xt {P : Nat → Prop} {h h2 : dnH} (e : ExH (fun a => a ≠ 257) h h2) : Xt P h h2 := ⟨e.1, fun a ha => ⟨(e.2 a ha).1, fun hn => (e.2 a ha).2.2.2.2 hn, fun _ => ⟨(e.2 a ha).2.1, (e.2 a ha).2.2.1, (e.2 a ha).2.2.2.1⟩⟩⟩
theorem Xt.tr {P : Nat → Prop} {h h2 h3 : dnH} (x : Xt P h h2) (y : Xt P h2 h3) : Xt P h h3 := ⟨Nat.le_trans x.1 y.1, fun a ha => by
  obtain ⟨x1, x2, x3⟩ := x.2 a ha
  obtain ⟨y1, y2, y3⟩ := y.2 a (Nat.lt_of_lt_of_le ha x.1)
  exact ⟨y1.trans x1, fun hn => (y2 hn).trans (x2 hn), fun hp => ⟨(y3 hp).1.trans (x3 hp).1, (y3 hp).2.1.trans (x3 hp).2.1, (y3 hp).2.2.trans (x3 hp).2.2⟩⟩⟩
theorem Xt.im {P Q : Nat → Prop} {h h2 : dnH} (x : Xt P h h2) (hq : ∀ a, a < h.1.length → Q a → P a) : Xt Q h h2 := ⟨x.1, fun a ha => ⟨(x.2 a ha).1, (x.2 a ha).2.1, fun q => (x.2 a ha).2.2 (hq a ha q)⟩⟩
theorem Xt.exh {P : Nat → Prop} {h h2 : dnH} (x : Xt P h h2) {a : Nat} (ha : a + 4 ≤ h.1.length) (hn : a ≠ 257) (w : RowAt h a) : RowAt h2 a := by
  obtain ⟨w1, w2, w3, w4, w5, w6, w7⟩ := w
  refine ⟨(x.2 a (by omega)).1.trans w1, (x.2 (a + 1) (by omega)).1.trans w2, (x.2 (a + 2) (by omega)).1.trans w3, (x.2 (a + 3) (by omega)).1.trans w4, ?_, ?_, ?_⟩
  · rw [(x.2 a (by omega)).2.1 hn]; exact w5
  · rw [(x.2 a (by omega)).2.1 hn]; exact w6
  · rw [(x.2 a (by omega)).2.1 hn]; exact w7
theorem Xt.stAt {P : Nat → Prop} {h h2 : dnH} {s : Nat} (x : Xt P h h2) (hs : s + 128 ≤ h.1.length) (hn : s + 128 ≤ 257 ∨ 258 ≤ s) (w : StAt h s) : StAt h2 s := by
  obtain ⟨⟨w1, w2, w3, w4⟩, ⟨w5, w6, w7⟩, w8⟩ := w
  refine ⟨⟨(x.2 s (by omega)).1.trans w1, (x.2 (s + 1) (by omega)).1.trans w2, (x.2 (s + 2) (by omega)).1.trans w3, (x.2 (s + 3) (by omega)).1.trans w4⟩, ⟨?_, ?_, ?_⟩, fun n hn => ⟨?_, ?_⟩⟩
  · rw [(x.2 s (by omega)).2.1 (by omega)]; exact w5
  · rw [(x.2 s (by omega)).2.1 (by omega)]; exact w6
  · rw [(x.2 s (by omega)).2.1 (by omega)]; exact w7
  · rw [(x.2 (s + 3) (by omega)).2.1 (by omega)]; exact (w8 n hn).1
  · exact x.exh (by omega) (by omega) (w8 n hn).2
theorem Xt.sh {P : Nat → Prop} {h h2 : dnH} (x : Xt P h h2) (hl : 321 ≤ h.1.length) (hs : Sh h) : Sh h2 := by
  obtain ⟨s1, s2, s3, s4, s5, s6, s7⟩ := hs
  refine ⟨fun q hq => ?_, fun q hq => ?_, x.stAt (by omega) (by omega) s3, x.stAt (by omega) (by omega) s4, x.exh (by omega) (by decide) s5, x.exh (by omega) (by decide) s6, x.exh (by omega) (by decide) s7⟩
  · have hb : ∀ q ∈ ptK, q.1 < 321 := by decide
    rw [(x.2 q.1 (Nat.lt_of_lt_of_le (hb q hq) hl)).1]
    exact s1 q hq
  · have hb : ∀ q ∈ ptR, q.1 < 321 ∧ q.1 ≠ 257 := by decide
    rw [(x.2 q.1 (Nat.lt_of_lt_of_le (hb q hq).1 hl)).2.1 (hb q hq).2]
    exact s2 q hq
theorem rel_im {B : Nat} {h h2 : dnH} (a : Rel B h) (x : Xt (fun x => x < 308 ∨ (316 ≤ x ∧ x < 321)) h h2) (i0 : imRel B h2 0) (i1 : imRel B h2 1) (d : imDis h2) : Rel B h2 := by
  obtain ⟨a1, a2, a3, a4, a5, a6, a7, a8, a9, b1, b2, b3, b4⟩ := a
  have eq : ∀ c, (c < 308 ∨ (316 ≤ c ∧ c < 321)) → h2.2.1 c = h.2.1 c ∧ h2.2.2.1 c = h.2.2.1 c ∧ h2.2.2.2.1 c = h.2.2.2.1 c := fun c hc => (x.2 c (by omega)).2.2 hc
  refine ⟨x.sh a2 a1, Nat.le_trans a2 x.1, fun r hr => ?_, fun p hp => ?_, fun r hr => ?_, stRel_cg a6 (vwe_S (fun c h1 h2 => eq c (by omega))) (vwe_R (fun c h1 h2 => eq c (by omega))), ?_, ?_, ?_, ?_, i0, i1, d⟩
  · rw [(eq _ (by omega)).1]; exact a3 r hr
  · rw [(eq 3 (by decide)).1]; exact a4 p hp
  · rw [(eq 295 (by decide)).1]; exact a5 r hr
  · unfold ntRel
    rw [(eq 258 (by decide)).1, (eq 258 (by decide)).2.1, (eq 289 (by decide)).1, (eq 289 (by decide)).2.1]
    exact a7
  · unfold rfRel
    rw [(eq 288 (by decide)).1, (eq 290 (by decide)).1]
    exact a8
  · unfold txRel
    rw [(eq 281 (by decide)).1, (eq 289 (by decide)).1, (eq 282 (by decide)).1, (eq 316 (by decide)).1]
    exact a9
  · unfold gsRel
    rw [(eq 285 (by decide)).1, (eq 289 (by decide)).1, (eq 286 (by decide)).1, (eq 287 (by decide)).1, (eq 319 (by decide)).1, (eq 320 (by decide)).1]
    exact b1
theorem im_go {P : Nat → Prop} {B j : Nat} {h h2 : dnH} (a : imRel B h j) (x : Xt P h h2) (e1 : h2.2.2.2.2 257 j = h.2.2.2.2 257 j) (e2 : h2.2.1 308 j = h.2.1 308 j) (v : VwE (vK h j) (vK h2 j)) (hp : ∀ s, h.2.2.2.2 257 j = some s → 321 ≤ s → s + 128 ≤ h.1.length → ∀ x, s < x → x < s + 128 → P x) : imRel B h2 j := by
  rcases a with ⟨a1, a2⟩ | ⟨s, a1, a2, a3, a4, a5, a6, a7⟩
  · exact .inl ⟨e1.trans a1, e2.trans a2⟩
  · have eq := fun c h1 h2 => (x.2 c (by omega)).2.2 (hp s a3 a1 a2 c h1 h2)
    refine .inr ⟨s, a1, Nat.le_trans a2 x.1, e1.trans a3, x.stAt a2 (by omega) a4, e2.trans a5, stRel_cg a6 (vwe_S eq) v, fun p hp => ?_⟩
    rw [(eq (s + 2) (by omega) (by omega)).1]
    exact a7 p hp
theorem im_of {B : Nat} {h : dnH} (a : Rel B h) {k : Nat} (hk : k < 2) : imRel B h k := by
  rcases (by omega : k = 0 ∨ k = 1) with rfl | rfl
  · exact a.2.2.2.2.2.2.2.2.2.2.1
  · exact a.2.2.2.2.2.2.2.2.2.2.2.1
theorem keep_c {B : Nat} {h : dnH} (a : Rel B h) {K : Nat} (hK : K < 2) : ∃ s h1, fX12_keep (some 0) (nI K) h = some (aI (fun g => decide (0 ≤ h.2.1 2 g)) 4, h1) ∧ Xt (fun x => x < 321 ∨ x ≤ s ∨ s + 128 ≤ x) h h1 ∧ 321 ≤ s ∧ s + 128 ≤ h1.1.length ∧ StAt h1 s ∧ h1.2.2.2.2 257 K = some s ∧ (∀ j, j ≠ K → h1.2.2.2.2 257 j = h.2.2.2.2 257 j) ∧ (h.2.2.2.2 257 K = some s ∨ h.1.length ≤ s) ∧ VwE (vS h 1) (vS h1 s) ∧ ∀ p, p < 6 → h1.2.1 (s + 2) (24 + p) = -14 := by
  have hs := a.1
  have im : inB (nI K) 0 1 = true := by
    rcases (by omega : K = 0 ∨ K = 1) with rfl | rfl <;> decide
  have go : ∀ s h3, Sh h3 → StAt h3 s → 321 ≤ s → h3.2.2.2.2 257 K = some s → ∃ h1, fX12_keep_j35 (some 0) (nI K) h3 = some (aI (fun g => decide (0 ≤ h3.2.1 2 g)) 4, h1) ∧ Cpd h3 h1 s 1 31 := fun s h3 s3 t3 hs3 r3 => by
    obtain ⟨h1, x1, x2⟩ := copyFrom_st t3 (st1 s3) (by omega)
    have s1 := x2.1.sh s3
    have pc := pres_c s1
    have ec : aI (fun g => decide (0 ≤ h1.2.1 2 g)) 4 = aI (fun g => decide (0 ≤ h3.2.1 2 g)) 4 := by rw [(x2.1.2.2 2 (by omega)).1]
    rw [ec] at pc
    have ar := ar_257 s3 hK
    rw [r3] at ar
    refine ⟨h1, ?_, x2⟩
    simp only [fX12_keep_j35, dnB_eval, g_0_2 s3, ar, g_0_0 s3, sv t3, x1, g_0_0 s1, sv (st1 s1), pc, dnP]
  have ar := ar_257 hs hK
  rcases im_of a hK with ⟨e1, e2⟩ | ⟨s, i1, i2, i3, i4, i5, i6, i7⟩
  · obtain ⟨h2, y1, y2, y3, y4, y5⟩ := store_new (h := h) rfl
    rw [e1] at ar
    have l2 := a.2.1
    have X2 : Xt (fun _ => True) h h2 := (y4.im (fun _ _ _ => trivial)).xt
    have s2 := X2.sh l2 hs
    have T : dnTR (some 257) 105 7 (nI K) (some h.1.length) h2 = some ((), dnSR h2 257 K (some h.1.length)) := by
      simp only [dnTR, k_257 s2, sk_0 y5, dnIn_nI (show K < 2 by omega) (by decide), if_true, nI_clamp (show K < 2 ^ 31 by omega)]
    have X3 : Xt (fun _ => True) h (dnSR h2 257 K (some h.1.length)) := ExH.xt (exh_SR (y4.im (fun _ _ _ => trivial)) (.inr (fun hc => hc rfl)))
    have s3 := X3.sh l2 hs
    have e23 : ∀ b, b ≠ 257 → (dnSR h2 257 K (some h.1.length)).2.2.2.2 b = h2.2.2.2.2 b := fun b hb => dnUp_row hb
    have t3 : StAt (dnSR h2 257 K (some h.1.length)) h.1.length := by
      have : ExH (fun a => a ≠ 257) h2 (dnSR h2 257 K (some h.1.length)) := exh_SR exh_rf (.inr (fun hc => hc rfl))
      exact this.stAt (by omega) (fun b hb _ => by omega) y5
    have r3 : (dnSR h2 257 K (some h.1.length)).2.2.2.2 257 K = some h.1.length := by simp [dnSR, dnUp]
    obtain ⟨h1, x1, x2⟩ := go h.1.length _ s3 t3 l2 r3
    have q2 : (dnSR h2 257 K (some h.1.length)).2.1 2 = h.2.1 2 := ((X3.2 2 (by omega)).2.2 trivial).1
    have q3 : ∀ c, c < h.1.length → h1.2.1 c = h.2.1 c ∧ h1.2.2.1 c = h.2.2.1 c ∧ h1.2.2.2.1 c = h.2.2.2.1 c := fun c hc => by
      obtain ⟨z1, z2, z3⟩ := x2.1.2.2 c (by omega)
      obtain ⟨u1, u2, u3⟩ := (X3.2 c hc).2.2 trivial
      exact ⟨z1.trans u1, z2.trans u2, z3.trans u3⟩
    refine ⟨h.1.length, h1, ?_, (X3.im (fun _ _ _ => trivial)).tr (x2.1.xt.im (fun c _ hc => ?_)), l2, ?_, x2.1.stAt t3, ?_, fun j hj => ?_, .inr (Nat.le_refl _), (vwe_S (s := 1) (fun c h1 h2 => ?_)).tr x2.vwe, fun p hp => ?_⟩
    · rw [← q2]
      simp only [fX12_keep, dnB_eval, c_isImage, im, dnP, if_true, g_0_2 hs, ar, Option.elim, y1, y2, T, x1]
    · have hc : c < 321 ∨ c ≤ h.1.length ∨ h.1.length + 128 ≤ c := hc
      omega
    · rw [x2.1.1]
      show h.1.length + 128 ≤ h2.1.length
      omega
    · rw [x2.1.2.1]; exact r3
    · rw [x2.1.2.1]
      show dnUp h2.2.2.2.2 257 K _ 257 j = _
      rw [dnUp_neK hj, (y4.2 257 (by omega)).2.2.2.2 trivial]
    · exact (X3.2 c (by omega)).2.2 trivial
    · rw [x2.2.2.2.1 _ (by omega)]
      rw [show (dnSR h2 257 K (some h.1.length)).2.1 (1 + 2) = h.2.1 3 from ((X3.2 3 (by omega)).2.2 trivial).1]
      exact a.2.2.2.1 p hp
  · rw [i3] at ar
    obtain ⟨h1, x1, x2⟩ := go s h hs i4 i1 i3
    refine ⟨s, h1, ?_, x2.1.xt.im (fun c _ hc => ?_), i1, by rw [x2.1.1]; exact i2, x2.1.stAt i4, by rw [x2.1.2.1]; exact i3, fun j hj => by rw [x2.1.2.1], .inl i3, x2.vwe, fun p hp => ?_⟩
    · simp only [fX12_keep, dnB_eval, c_isImage, im, dnP, if_true, g_0_2 hs, ar, Option.elim, x1]
    · have hc : c < 321 ∨ c ≤ s ∨ s + 128 ≤ c := hc
      omega
    · rw [x2.2.2.2.1 _ (by omega)]
      exact a.2.2.2.1 p hp
theorem call_keep (B : Nat) (p : Int32) : Call B B (fX12_keep (some 0) p) (fX13_keep (some 289) p) := by
  intro h a
  have hs := a.1
  cases im : inB p 0 1
  · refine ⟨-1, cnt h 288 (-1), _, ?_, ?_, close0 a (-1)⟩
    · simp only [fX12_keep, dnB_eval, c_isImage, im, dnP, Bool.false_eq_true, if_false, v_0 hs, tally_c hs]
    · simp only [fX13_keep, dnB_eval, r_in, im, dnP, Bool.false_eq_true, if_false, v_289 (cntSh hs), said_r (cntSh hs)]
  obtain ⟨K, hK, rfl⟩ := inB_of (n := 1) (by decide) im
  have hK : K < 2 := by omega
  have l2 := a.2.1
  obtain ⟨s, h1, x1, x2, x3, x4, x5, x6, x7, x8, x9, x10⟩ := keep_c a hK
  have s1 := x2.sh l2 hs
  obtain ⟨h2, y1, y2, y3, y4, y5, y6⟩ := keeps_r (K := K) s1 (by omega)
  have s2 := y2.sh s1
  have lw : ∀ c, c < 308 ∨ (316 ≤ c ∧ c < 321) → h2.2.1 c = h.2.1 c ∧ h2.2.2.1 c = h.2.2.1 c ∧ h2.2.2.2.1 c = h.2.2.2.1 c := fun c hc => by
    obtain ⟨u1, u2, u3⟩ := y2.2.2 c (by omega)
    obtain ⟨v1, v2, v3⟩ := (x2.2 c (by omega)).2.2 (by show c < 321 ∨ _; omega)
    exact ⟨u1.trans v1, u2.trans v2, u3.trans v3⟩
  have e1 : ∀ c, 291 ≤ c → c ≤ 320 → h1.2.1 c = h.2.1 c ∧ h1.2.2.1 c = h.2.2.1 c ∧ h1.2.2.2.1 c = h.2.2.2.1 c := fun c h1 h2 => (x2.2 c (by omega)).2.2 (by show c < 321 ∨ _; omega)
  have pr := pres_r s2
  have ep : aI (fun g => decide (0 ≤ h2.2.1 291 g)) 4 = aI (fun g => decide (0 ≤ h.2.1 2 g)) 4 := aI_cg 4 (fun g hg => by
    rw [(lw 291 (by omega)).1, show h.2.1 291 g = h.2.1 2 g from (a.2.2.2.2.2.1.1 g hg).2])
  rw [ep] at pr
  refine ⟨_, h1, h2, x1, by simp only [fX13_keep, dnB_eval, r_in, im, dnP, if_true, v_289 s1, y1, v_289 s2, pr], ?_⟩
  have X : Xt (fun x => x < 308 ∨ (316 ≤ x ∧ x < 321) ∨ (321 ≤ x ∧ (x ≤ s ∨ s + 128 ≤ x))) h h2 := (x2.im (fun c _ hc => by
    have hc : c < 308 ∨ (316 ≤ c ∧ c < 321) ∨ (321 ≤ c ∧ (c ≤ s ∨ s + 128 ≤ c)) := hc
    show c < 321 ∨ c ≤ s ∨ s + 128 ≤ c
    omega)).tr (y2.xt.im (fun c _ hc => by
    have hc : c < 308 ∨ (316 ≤ c ∧ c < 321) ∨ (321 ≤ c ∧ (c ≤ s ∨ s + 128 ≤ c)) := hc
    omega))
  have iK : imRel B h2 K := by
    refine .inr ⟨s, x3, by rw [y2.1]; exact x4, by rw [y2.2.1]; exact x6, y2.stAt x5, y3, stRel_cg a.2.2.2.2.2.1 (x9.tr (vwe_S (fun c h1 h2 => y2.2.2 c (by omega)))) ((vwe_R (fun c h1 h2 => e1 c (by omega) (by omega))).tr y5), fun p hp => ?_⟩
    rw [(y2.2.2 (s + 2) (by omega)).1]
    exact x10 p hp
  have dis : ∀ j, j < 2 → j ≠ K → ∀ t, h.2.2.2.2 257 j = some t → 321 ≤ t → t + 128 ≤ h.1.length → t + 128 ≤ s ∨ s + 128 ≤ t := fun j hj hne t ht h3 h4 => by
    rcases x8 with x8 | x8
    · have d := a.2.2.2.2.2.2.2.2.2.2.2.2
      rcases (by omega : (K = 0 ∧ j = 1) ∨ (K = 1 ∧ j = 0)) with ⟨rfl, rfl⟩ | ⟨rfl, rfl⟩
      · have := d s t x8 ht; omega
      · exact d t s ht x8
    · omega
  have iJ : ∀ j, j < 2 → j ≠ K → imRel B h2 j := fun j hj hne => by
    have v1 : VwE (vK h j) (vK h1 j) := by
      have : vK h1 j = vK h j := by
        unfold vK
        rw [(e1 309 (by decide) (by decide)).1, (e1 310 (by decide) (by decide)).1, (e1 311 (by decide) (by decide)).1, (e1 312 (by decide) (by decide)).1, (e1 313 (by decide) (by decide)).1, (e1 314 (by decide) (by decide)).2.1, (e1 315 (by decide) (by decide)).2.2]
      rw [this]
      exact vwe_rf
    refine im_go (im_of a hj) X ?_ ?_ (v1.tr (y6 j hne)) (fun t ht h3 h4 c h5 h6 => ?_)
    · rw [y2.2.1]; exact x7 j hne
    · rw [y4 j hne, (e1 308 (by decide) (by decide)).1]
    · have := dis j hj hne t ht h3 h4
      show c < 308 ∨ (316 ≤ c ∧ c < 321) ∨ (321 ≤ c ∧ (c ≤ s ∨ s + 128 ≤ c))
      omega
  have r2 : ∀ j t, j < 2 → j ≠ K → h2.2.2.2.2 257 j = some t → t + 128 ≤ s ∨ s + 128 ≤ t := fun j t hj hne ht => by
    rw [y2.2.1, x7 j hne] at ht
    rcases im_of a hj with ⟨q1, -⟩ | ⟨t2, q1, q2, q3, -⟩
    · rw [q1] at ht; cases ht
    · rw [q3] at ht
      cases ht
      exact dis j hj hne t q3 q1 q2
  have rK : h2.2.2.2.2 257 K = some s := by rw [y2.2.1]; exact x6
  have D : imDis h2 := fun s' t' hs' ht' => by
    rcases (by omega : K = 0 ∨ K = 1) with rfl | rfl
    · rw [rK] at hs'
      cases hs'
      have := r2 1 t' (by decide) (by decide) ht'
      omega
    · rw [rK] at ht'
      cases ht'
      exact r2 0 s' (by decide) (by decide) hs'
  refine rel_im a (X.im (fun c _ hc => by
    have hc : c < 308 ∨ (316 ≤ c ∧ c < 321) := hc
    show c < 308 ∨ (316 ≤ c ∧ c < 321) ∨ (321 ≤ c ∧ (c ≤ s ∨ s + 128 ≤ c))
    omega)) ?_ ?_ D
  · by_cases q : K = 0
    · rw [← q]; exact iK
    · exact iJ 0 (by decide) (by omega)
  · by_cases q : K = 1
    · rw [← q]; exact iK
    · exact iJ 1 (by decide) (by omega)
theorem call_back (B : Nat) (p : Int32) : Call B B (fX12_back (some 0) p) (fX13_back (some 289) p) := by
  intro h a
  have hs := a.1
  cases im : inB p 0 1
  · refine ⟨-1, cnt h 288 (-1), _, ?_, ?_, close0 a (-1)⟩
    · simp only [fX12_back, dnB_eval, c_isImage, im, dnP, Bool.false_eq_true, if_false, v_0 hs, tally_c hs]
    · simp only [fX13_back, dnB_eval, r_in, im, dnP, Bool.false_eq_true, if_false, v_289 (cntSh hs), said_r (cntSh hs)]
  obtain ⟨K, hK, rfl⟩ := inB_of (n := 1) (by decide) im
  have hK : K < 2 := by omega
  have l2 := a.2.1
  have ar := ar_257 hs hK
  have fl : ∀ {k : dnH}, Sh k → dnAI (some 308) 100 (nI K) k = some (k.2.1 308 K, k) := fun {k} sk => by
    rw [a_308 sk, dnIn_nI (show K < 3 by omega) (by decide), nI_clamp (by omega)]
    rfl
  rcases im_of a hK with ⟨e1, e2⟩ | ⟨s, i1, i2, i3, i4, i5, i6, i7⟩
  · rw [e1] at ar
    have f8 := fl (cntSh (v := -2) (a := 288) hs)
    rw [cntI (by decide), e2] at f8
    refine ⟨-2, cnt h 288 (-2), _, ?_, ?_, close0 a (-2)⟩
    · simp only [fX12_back, dnB_eval, c_isImage, im, dnP, if_true, g_0_2 hs, ar, Option.elim, v_0 hs, tally_c hs]
    · simp only [fX13_back, dnB_eval, r_in, im, dnP, if_true, g_289_28 (cntSh hs), f8, not_true_eq_false, if_false, v_289 (cntSh hs), said_r (cntSh hs)]
  · rw [i3] at ar
    obtain ⟨h1, x1, x2⟩ := copyFrom_st (st1 hs) i4 (by omega)
    have s1 := x2.1.sh hs
    obtain ⟨h2, y1, y2, y3⟩ := comes_r (K := K) s1 (by omega)
    have s2 := y2.sh s1
    have e : Eqc (fun x => x ≤ 1 ∨ (129 ≤ x ∧ (x < 291 ∨ x = 295 ∨ 299 ≤ x))) h h2 := (x2.1.im (fun c hc => by omega)).tr (y2.im (fun c hc => by omega))
    have vk : vK h1 K = vK h K := by
      have e1 : ∀ c, 309 ≤ c → h1.2.1 c = h.2.1 c ∧ h1.2.2.1 c = h.2.2.1 c ∧ h1.2.2.2.1 c = h.2.2.2.1 c := fun c hc => x2.1.2.2 c (by omega)
      unfold vK
      rw [(e1 309 (by decide)).1, (e1 310 (by decide)).1, (e1 311 (by decide)).1, (e1 312 (by decide)).1, (e1 313 (by decide)).1, (e1 314 (by decide)).2.1, (e1 315 (by decide)).2.2]
    rw [vk] at y3
    have f8 := fl s1
    rw [(x2.1.2.2 308 (by decide)).1, i5] at f8
    have pc := pres_c s1
    have pr := pres_r s2
    have ep : aI (fun g => decide (0 ≤ h2.2.1 291 g)) 4 = aI (fun g => decide (0 ≤ h1.2.1 2 g)) 4 := aI_cg 4 (fun g hg => by
      have u1 : h2.2.1 291 g = h.2.1 309 (4 * K + g) := y3.1 g hg
      have u2 : h1.2.1 2 g = h.2.1 (s + 1) g := x2.2.2.1 g (by omega)
      have u3 : h.2.1 309 (4 * K + g) = h.2.1 (s + 1) g := (i6.1 g hg).2
      rw [u1, u2, u3])
    rw [ep] at pr
    have o1 : ¬ ((1 : Int32) = 0) := by decide
    refine ⟨aI (fun g => decide (0 ≤ h1.2.1 2 g)) 4, h1, h2, ?_, ?_, s2, by rw [e.1]; exact l2, fun r hr => ?_, fun p hp => ?_, fun r hr => ?_, ?_, ?_, ?_, ?_, ?_, ?_, ?_, ?_⟩
    · simp only [fX12_back, dnB_eval, c_isImage, im, dnP, if_true, g_0_2 hs, ar, Option.elim, g_0_0 hs, sv (st1 hs), x1, g_0_0 s1, sv (st1 s1), pc]
    · simp only [fX13_back, dnB_eval, r_in, im, dnP, if_true, g_289_28 s1, f8, o1, not_false_eq_true, v_289 s1, y1, v_289 s2, pr]
    · have := x2.2.1 r hr
      rw [(y2.2.2 (5 + 4 * r) (by omega)).1, show 5 + 4 * r = 1 + 4 + 4 * r by omega, this, show 1 + 4 + 4 * r = 5 + 4 * r by omega]
      exact a.2.2.1 r hr
    · have := x2.2.2.2.1 (24 + p) (by omega)
      rw [(y2.2.2 3 (by omega)).1]
      have this : h1.2.1 3 (24 + p) = h.2.1 (s + 2) (24 + p) := this
      rw [this]
      exact i7 p hp
    · rw [(e.2.2 295 (by omega)).1]; exact a.2.2.2.2.1 r hr
    · exact stRel_cg i6 (x2.vwe.tr (vwe_S (fun c h1 h2 => y2.2.2 c (by omega)))) y3
    · exact a.2.2.2.2.2.2.1.go e (by omega) (e.e9 (by omega))
    · exact a.2.2.2.2.2.2.2.1.go e (by omega) (by omega)
    · exact a.2.2.2.2.2.2.2.2.1.go e (by omega) (e.e9 (by omega)) (by omega) (by omega)
    · exact a.2.2.2.2.2.2.2.2.2.1.go e (by omega) (e.e9 (by omega)) (by omega) (by omega) (by omega) (by omega)
    · exact (im_of a (show 0 < 2 by decide)).go e (fun x h1 h2 => by omega) (fun x h1 => by omega)
    · exact (im_of a (show 1 < 2 by decide)).go e (fun x h1 h2 => by omega) (fun x h1 => by omega)
    · exact imDis.go e a.2.2.2.2.2.2.2.2.2.2.2.2
