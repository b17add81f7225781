/-! ABS 59: stores copied and made -/
def Cpd (h h2 : dnH) (a b N : Nat) : Prop := Eqc (fun x => x ≤ a ∨ a + 128 ≤ x) h h2 ∧ (∀ n, n < 31 → h2.2.1 (a + 4 + 4 * n) 0 = h.2.1 (a + 4 + 4 * n) 0) ∧ (∀ g, g < 5 → h2.2.1 (a + 1) g = h.2.1 (b + 1) g) ∧ (∀ k, k < 30 → h2.2.1 (a + 2) k = h.2.1 (b + 2) k) ∧ ∀ n, n < N → h2.2.1 (a + 4 + 4 * n) 1 = h.2.1 (b + 4 + 4 * n) 1 ∧ h2.2.1 (a + 4 + 4 * n) 2 = h.2.1 (b + 4 + 4 * n) 2 ∧ ∀ i, i < 12 → h2.2.1 (a + 4 + 4 * n + 1) i = h.2.1 (b + 4 + 4 * n + 1) i ∧ h2.2.2.1 (a + 4 + 4 * n + 2) i = h.2.2.1 (b + 4 + 4 * n + 2) i ∧ h2.2.2.2.1 (a + 4 + 4 * n + 3) i = h.2.2.2.1 (b + 4 + 4 * n + 3) i
theorem Eqc.stAt {P : Nat → Prop} {h h2 : dnH} {s : Nat} (e : Eqc P h h2) (w : StAt h s) : StAt h2 s := by
  unfold StAt RowAt
  rw [e.1, e.2.1]
  exact w
theorem eqc_UA {P : Nat → Prop} {h : dnH} {a : Nat} {g : Nat → Int32} (hp : ¬ P a) : Eqc P h (h.1, dnUpA h.2.1 a g, h.2.2) := ⟨rfl, rfl, fun x hx => ⟨dnUpA_row (fun e => hp (e ▸ hx)), rfl, rfl⟩⟩
theorem copyFrom_st {h : dnH} {a b : Nat} (ha : StAt h a) (hb : StAt h b) (hne : b + 128 ≤ a ∨ a + 128 ≤ b) : ∃ h2, fX9_copyFrom (some a) (some b) h = some ((), h2) ∧ Cpd h h2 a b 31 := by
  have q1 := cpI (h := h) (a := b + 1) (b := a + 1) (m := 5) hb.1.2.1 ha.1.2.1 (by decide)
  obtain ⟨h1, eh1⟩ : ∃ h1 : dnH, h1 = (h.1, dnUpA h.2.1 (a + 1) (fun k => if k < 5 then h.2.1 (b + 1) k else h.2.1 (a + 1) k), h.2.2) := ⟨_, rfl⟩
  rw [← eh1] at q1
  have q1 : dnCI (some (b + 1)) (some (a + 1)) 0 0 5 h = some ((), h1) := q1
  have E1 : Eqc (fun x => x ≠ a + 1) h h1 := by rw [eh1]; exact eqc_UA (fun hc => hc rfl)
  have ha1 := E1.stAt ha
  have hb1 := E1.stAt hb
  have q2 := cpI (h := h1) (a := b + 2) (b := a + 2) (m := 30) hb1.1.2.2.1 ha1.1.2.2.1 (by decide)
  obtain ⟨h2, eh2⟩ : ∃ h2 : dnH, h2 = (h1.1, dnUpA h1.2.1 (a + 2) (fun k => if k < 30 then h1.2.1 (b + 2) k else h1.2.1 (a + 2) k), h1.2.2) := ⟨_, rfl⟩
  rw [← eh2] at q2
  have q2 : dnCI (some (b + 2)) (some (a + 2)) 0 0 30 h1 = some ((), h2) := q2
  have E2 : Eqc (fun x => x ≠ a + 2) h1 h2 := by rw [eh2]; exact eqc_UA (fun hc => hc rfl)
  have ha2 := E2.stAt ha1
  have hb2 := E2.stAt hb1
  have E12 : Eqc (fun x => x ≠ a + 1 ∧ x ≠ a + 2) h h2 := (E1.im (fun x hx => hx.1)).tr (E2.im (fun x hx => hx.2))
  have f1 : ∀ g, g < 5 → h2.2.1 (a + 1) g = h.2.1 (b + 1) g := fun g hg => by
    rw [(E2.2.2 (a + 1) (by omega)).1, eh1]
    simp [dnUpA, hg]
  have f2 : ∀ k, k < 30 → h2.2.1 (a + 2) k = h.2.1 (b + 2) k := fun k hk => by
    rw [eh2]
    have : (dnUpA h1.2.1 (a + 2) (fun k => if k < 30 then h1.2.1 (b + 2) k else h1.2.1 (a + 2) k)) (a + 2) k = h1.2.1 (b + 2) k := by simp [dnUpA, hk]
    show (dnUpA h1.2.1 (a + 2) (fun k => if k < 30 then h1.2.1 (b + 2) k else h1.2.1 (a + 2) k)) (a + 2) k = _
    rw [this, (E1.2.2 (b + 2) (by omega)).1]
  have KK := it_inv (f := fX9_copyFrom_b38 (some a) (some b)) (Q := fun _ k => Cpd h k a b 31) (fun n u k => u = nI n ∧ Cpd h k a b n) 31 1000 0 (by omega) (by omega) ?_ ?_ (nI 0) h2 ⟨rfl, E12.im (fun x hx => by omega), fun n hn => by rw [(E12.2.2 _ (by omega)).1], f1, f2, fun n hn => by omega⟩
  · obtain ⟨q, h3, b1, b2⟩ := KK
    rw [nI_0] at b1
    refine ⟨h3, ?_, b2⟩
    simp only [fX9_copyFrom, dnB_eval, sg_0 ha, sg_0 hb, sl_1 ha, q1, sg_1 ha1, sg_1 hb1, sl_2 ha1, q2, b1, dnP]
  · rintro n u k hn ⟨rfl, C⟩
    left
    have ka := C.1.stAt ha
    have kb := C.1.stAt hb
    have hc : ¬ ((31 : Int32) ≤ nI n) := fun hc => by have := (nI_leI (a := 31) (b := n) (by omega) (by omega)).mp hc; omega
    obtain ⟨k2, x1, x2, x3, x4, x5⟩ := copyFrom_X (ka.2.2 n hn).2 (kb.2.2 n hn).2 (by omega)
    refine ⟨nI (n + 1), k2, ?_, rfl, C.1.tr (x2.1.im (fun x hx => by omega)), fun m hm => ?_, fun g hg => ?_, fun j hj => ?_, fun m hm => ?_⟩
    · simp only [fX9_copyFrom_b38, hc, if_false, dnB_eval, sg_2 ka, sa_3 ka hn, sg_2 kb, sa_3 kb hn, rv (ka.2.2 n hn).2, x1, dnP, nI_1]
    · by_cases q : m = n
      · rw [q, x2.2]; exact C.2.1 n hn
      · rw [(x2.1.2.2 _ (by omega)).1]; exact C.2.1 m hm
    · rw [(x2.1.2.2 _ (by omega)).1]; exact C.2.2.1 g hg
    · rw [(x2.1.2.2 _ (by omega)).1]; exact C.2.2.2.1 j hj
    · by_cases q : m = n
      · subst q
        have eb : ∀ x, b + 4 + 4 * m ≤ x → x < b + 4 + 4 * m + 4 → k.2.1 x = h.2.1 x ∧ k.2.2.1 x = h.2.2.1 x ∧ k.2.2.2.1 x = h.2.2.2.1 x := fun x h1 h2 => C.1.2.2 x (by omega)
        refine ⟨?_, ?_, fun i hi => ⟨?_, ?_, ?_⟩⟩
        · rw [x3, (eb _ (by omega) (by omega)).1]
        · rw [x4, (eb _ (by omega) (by omega)).1]
        · rw [(x5 i hi).1, (eb _ (by omega) (by omega)).1]
        · rw [(x5 i hi).2.1, (eb _ (by omega) (by omega)).2.1]
        · rw [(x5 i hi).2.2, (eb _ (by omega) (by omega)).2.2]
      · obtain ⟨y1, y2, y3⟩ := C.2.2.2.2 m (by omega)
        refine ⟨?_, ?_, fun i hi => ⟨?_, ?_, ?_⟩⟩
        · rw [(x2.1.2.2 _ (by omega)).1]; exact y1
        · rw [(x2.1.2.2 _ (by omega)).1]; exact y2
        · rw [(x2.1.2.2 _ (by omega)).1]; exact (y3 i hi).1
        · rw [(x2.1.2.2 _ (by omega)).2.1]; exact (y3 i hi).2.1
        · rw [(x2.1.2.2 _ (by omega)).2.2]; exact (y3 i hi).2.2
  · rintro u k ⟨rfl, C⟩
    have hc : ((31 : Int32) ≤ nI 31) := by decide
    exact ⟨(), k, by simp only [fX9_copyFrom_b38, hc, if_true, dnP], C⟩
theorem Cpd.vwe {h h2 : dnH} {a b : Nat} (c : Cpd h h2 a b 31) : VwE (vS h b) (vS h2 a) := by
  obtain ⟨c1, c2, c3, c4, c5⟩ := c
  refine ⟨fun g hg => c3 g (by omega), fun k hk => c4 k (by omega), fun n hn => ?_⟩
  obtain ⟨y1, y2, y3⟩ := c5 n hn
  exact ⟨y1, y2, fun i hi => y3 i hi⟩
theorem pres_c {h : dnH} (hs : Sh h) : fX9_presentGrids (some 1) h = some (aI (fun g => decide (0 ≤ h.2.1 2 g)) 4, h) := by
  have key : dnIt 1000 (fX9_presentGrids_b4 (some 1)) (0, 0) h = some (aI (fun g => decide (0 ≤ h.2.1 2 g)) 4, h) := by
    refine dnIt_run (f := fX9_presentGrids_b4 (some 1)) (q := aI (fun g => decide (0 ≤ h.2.1 2 g)) 4) (hq := h) 4 1000 (fun g => ((aI (fun g => decide (0 ≤ h.2.1 2 g)) g, nI g), h)) (by decide) ?_ ?_
    · intro g hg
      have hc : ¬ ((4 : Int32) ≤ nI g) := fun hc => by have := (nI_leI (a := 4) (b := g) (by omega) (by omega)).mp hc; omega
      have pl : dnAI (some (1 + 1)) 100 (nI g) h = some (h.2.1 2 g, h) := by
        rw [sa_1 (st1 hs), dnIn_nI (show g < 5 by omega) (by decide), nI_clamp (by omega)]
        rfl
      show _ = some (Sum.inl (aI (fun g => decide (0 ≤ h.2.1 2 g)) g + dnZ (decide (0 ≤ h.2.1 2 g)), nI (g + 1)), h)
      simp only [fX9_presentGrids_b4, fX9_presentGrids_j24, hc, if_false, dnB_eval, sg_0 (st1 hs), pl, dnP, nI_1]
      by_cases q : 0 ≤ h.2.1 2 g <;> simp [q, dnP]
    · simp only [fX9_presentGrids_b4, show (4 : Int32) ≤ nI 4 by decide, if_true, dnP]
  simp only [fX9_presentGrids, dnB_eval, key, dnP]
theorem pres_r {h : dnH} (hs : Sh h) : fX13_gridMany (some 289) h = some (aI (fun g => decide (0 ≤ h.2.1 291 g)) 4, h) := by
  have key : dnIt 1000 (fX13_gridMany_b4 (some 289)) (0, 0) h = some (aI (fun g => decide (0 ≤ h.2.1 291 g)) 4, h) := by
    refine dnIt_run (f := fX13_gridMany_b4 (some 289)) (q := aI (fun g => decide (0 ≤ h.2.1 291 g)) 4) (hq := h) 4 1000 (fun g => ((aI (fun g => decide (0 ≤ h.2.1 291 g)) g, nI g), h)) (by decide) ?_ ?_
    · intro g hg
      have hc : ¬ ((4 : Int32) ≤ nI g) := fun hc => by have := (nI_leI (a := 4) (b := g) (by omega) (by omega)).mp hc; omega
      have pl : dnAI (some 291) 100 (nI g) h = some (h.2.1 291 g, h) := by
        rw [a_291 hs, dnIn_nI hg (by decide), nI_clamp (by omega)]
        rfl
      show _ = some (Sum.inl (aI (fun g => decide (0 ≤ h.2.1 291 g)) g + dnZ (decide (0 ≤ h.2.1 291 g)), nI (g + 1)), h)
      simp only [fX13_gridMany_b4, fX13_gridMany_j24, hc, if_false, dnB_eval, g_289_4 hs, pl, dnP, nI_1]
      by_cases q : h.2.1 291 g < 0
      · rw [if_pos q, decide_eq_false (Int32.not_le.mpr q)]
        rfl
      · rw [if_neg q, decide_eq_true (Int32.not_lt.mp q)]
        rfl
    · simp only [fX13_gridMany_b4, show (4 : Int32) ≤ nI 4 by decide, if_true, dnP]
  simp only [fX13_gridMany, dnB_eval, key, dnP]
theorem aI_cg {F G : Nat → Bool} : ∀ n, (∀ i, i < n → F i = G i) → aI F n = aI G n := fun n h => by rw [aI_nI, aI_nI, cN_congr n h]
/-- a heap that goes on from another: new cells behind it -/
def ExH (P : Nat → Prop) (h h2 : dnH) : Prop := h.1.length ≤ h2.1.length ∧ ∀ a, a < h.1.length → h2.1[a]? = h.1[a]? ∧ h2.2.1 a = h.2.1 a ∧ h2.2.2.1 a = h.2.2.1 a ∧ h2.2.2.2.1 a = h.2.2.2.1 a ∧ (P a → h2.2.2.2.2 a = h.2.2.2.2 a)
theorem exh_rf {P : Nat → Prop} {h : dnH} : ExH P h h := ⟨Nat.le_refl _, fun _ _ => ⟨rfl, rfl, rfl, rfl, fun _ => rfl⟩⟩
theorem ExH.tr {P : Nat → Prop} {h h2 h3 : dnH} (x : ExH P h h2) (y : ExH P h2 h3) : ExH P h h3 := ⟨Nat.le_trans x.1 y.1, fun a ha => by
  obtain ⟨x1, x2, x3, x4, x5⟩ := x.2 a ha
  obtain ⟨y1, y2, y3, y4, y5⟩ := y.2 a (Nat.lt_of_lt_of_le ha x.1)
  exact ⟨y1.trans x1, y2.trans x2, y3.trans x3, y4.trans x4, fun hp => (y5 hp).trans (x5 hp)⟩⟩
theorem ExH.im {P Q : Nat → Prop} {h h2 : dnH} (x : ExH P h h2) (hq : ∀ a, a < h.1.length → Q a → P a) : ExH Q h h2 := ⟨x.1, fun a ha => by
  obtain ⟨x1, x2, x3, x4, x5⟩ := x.2 a ha
  exact ⟨x1, x2, x3, x4, fun q => x5 (hq a ha q)⟩⟩
theorem exh_nw {P : Nat → Prop} {h : dnH} {q : Nat × Nat} : ExH P h (dnNw h q) := by
  refine ⟨by simp [dnNw], fun a ha => ⟨by simp [dnNw, List.getElem?_append, ha], ?_, ?_, ?_, fun _ => ?_⟩⟩
  · exact dnUpA_row (by omega)
  · exact dnUpA_row (by omega)
  · exact dnUpA_row (by omega)
  · exact dnUpA_row (by omega)
theorem exh_SI {P : Nat → Prop} {h h2 : dnH} {a k : Nat} {v : Int32} (x : ExH P h h2) (ha : h.1.length ≤ a) : ExH P h (dnSI h2 a k v) := ⟨x.1, fun b hb => by
  obtain ⟨x1, x2, x3, x4, x5⟩ := x.2 b hb
  exact ⟨x1, (dnUp_row (show b ≠ a by omega)).trans x2, x3, x4, x5⟩⟩
theorem exh_SR {P : Nat → Prop} {h h2 : dnH} {a k : Nat} {v : Option Nat} (x : ExH P h h2) (ha : h.1.length ≤ a ∨ ¬ P a) : ExH P h (dnSR h2 a k v) := ⟨x.1, fun b hb => by
  obtain ⟨x1, x2, x3, x4, x5⟩ := x.2 b hb
  refine ⟨x1, x2, x3, x4, fun hp => ?_⟩
  have : b ≠ a := fun e => by
    subst e
    rcases ha with ha | ha
    · omega
    · exact ha hp
  exact (dnUp_row this).trans (x5 hp)⟩
theorem exh_flI {P : Nat → Prop} {h h2 : dnH} {a n : Nat} {v : Int32} (x : ExH P h h2) (ha : h.1.length ≤ a) : ExH P h (flI h2 a n v) := ⟨x.1, fun b hb => by
  obtain ⟨x1, x2, x3, x4, x5⟩ := x.2 b hb
  exact ⟨x1, (dnUpA_row (show b ≠ a by omega)).trans x2, x3, x4, x5⟩⟩
theorem ExH.rowAt {P : Nat → Prop} {h h2 : dnH} {a : Nat} (x : ExH P h h2) (ha : a + 4 ≤ h.1.length) (hp : P a) (w : RowAt h a) : RowAt h2 a := by
  obtain ⟨w1, w2, w3, w4, w5, w6, w7⟩ := w
  refine ⟨(x.2 a (by omega)).1.trans w1, (x.2 (a + 1) (by omega)).1.trans w2, (x.2 (a + 2) (by omega)).1.trans w3, (x.2 (a + 3) (by omega)).1.trans w4, ?_, ?_, ?_⟩
  · rw [(x.2 a (by omega)).2.2.2.2 hp]; exact w5
  · rw [(x.2 a (by omega)).2.2.2.2 hp]; exact w6
  · rw [(x.2 a (by omega)).2.2.2.2 hp]; exact w7
theorem ExH.stAt {P : Nat → Prop} {h h2 : dnH} {s : Nat} (x : ExH P h h2) (hs : s + 128 ≤ h.1.length) (hp : ∀ a, s ≤ a → a < s + 128 → P a) (w : StAt h s) : StAt h2 s := by
  obtain ⟨⟨w1, w2, w3, w4⟩, ⟨w5, w6, w7⟩, w8⟩ := w
  refine ⟨⟨(x.2 s (by omega)).1.trans w1, (x.2 (s + 1) (by omega)).1.trans w2, (x.2 (s + 2) (by omega)).1.trans w3, (x.2 (s + 3) (by omega)).1.trans w4⟩, ⟨?_, ?_, ?_⟩, fun n hn => ⟨?_, ?_⟩⟩
  · rw [(x.2 s (by omega)).2.2.2.2 (hp _ (by omega) (by omega))]; exact w5
  · rw [(x.2 s (by omega)).2.2.2.2 (hp _ (by omega) (by omega))]; exact w6
  · rw [(x.2 s (by omega)).2.2.2.2 (hp _ (by omega) (by omega))]; exact w7
  · rw [(x.2 (s + 3) (by omega)).2.2.2.2 (hp _ (by omega) (by omega))]; exact (w8 n hn).1
  · exact x.rowAt (by omega) (hp _ (by omega) (by omega)) (w8 n hn).2
theorem row_new {h : dnH} {L : Nat} (hL : h.1.length = L) (p : Int32) : ∃ h2, dnNo 4 h = some (some L, dnNw h (4, 0)) ∧ dnCv (some L) 4 (fX5_init (some L) p) (dnNw h (4, 0)) = some ((), h2) ∧ h2.1.length = L + 4 ∧ ExH (fun _ => True) h h2 ∧ RowAt h2 L ∧ h2.2.1 L 0 = p := by
  subst hL
  have n12 : ¬ ((12 : Int32) < 0) := by decide
  have c12 : (12 : Int32).toNatClampNeg = 12 := rfl
  have x1 : ExH (fun _ => True) h (dnNw h (4, 0)) := exh_nw
  obtain ⟨h1, e1⟩ : ∃ h1, h1 = dnSI (dnSI (dnNw h (4, 0)) h.1.length 1 8) h.1.length 2 0 := ⟨_, rfl⟩
  obtain ⟨h2, e2⟩ : ∃ h2, h2 = dnSR (dnNw h1 (100, 12)) h.1.length 3 (some (h.1.length + 1)) := ⟨_, rfl⟩
  obtain ⟨h3, e3⟩ : ∃ h3, h3 = dnSR (dnNw h2 (102, 12)) h.1.length 4 (some (h.1.length + 2)) := ⟨_, rfl⟩
  obtain ⟨h4, e4⟩ : ∃ h4, h4 = dnSI (dnSR (dnNw h3 (103, 12)) h.1.length 5 (some (h.1.length + 3))) h.1.length 0 p := ⟨_, rfl⟩
  have t1 : h1.1 = h.1 ++ [(4, 0)] := by rw [e1]; rfl
  have t2 : h2.1 = h.1 ++ [(4, 0)] ++ [(100, 12)] := by rw [e2, ← t1]; rfl
  have t3 : h3.1 = h.1 ++ [(4, 0)] ++ [(100, 12)] ++ [(102, 12)] := by rw [e3, ← t2]; rfl
  have t4 : h4.1 = h.1 ++ [(4, 0)] ++ [(100, 12)] ++ [(102, 12)] ++ [(103, 12)] := by rw [e4, ← t3]; rfl
  have l1 : h1.1.length = h.1.length + 1 := by rw [t1]; simp
  have l2 : h2.1.length = h.1.length + 2 := by rw [t2]; simp
  have l3 : h3.1.length = h.1.length + 3 := by rw [t3]; simp
  have l4 : h4.1.length = h.1.length + 4 := by rw [t4]; simp
  have X1 : ExH (fun _ => True) h h1 := by rw [e1]; exact exh_SI (exh_SI x1 (Nat.le_refl _)) (Nat.le_refl _)
  have X2 : ExH (fun _ => True) h h2 := by rw [e2]; exact exh_SR (X1.tr exh_nw) (.inl (Nat.le_refl _))
  have X3 : ExH (fun _ => True) h h3 := by rw [e3]; exact exh_SR (X2.tr exh_nw) (.inl (Nat.le_refl _))
  have X4 : ExH (fun _ => True) h h4 := by rw [e4]; exact exh_SI (exh_SR (X3.tr exh_nw) (.inl (Nat.le_refl _))) (Nat.le_refl _)
  have k0 : (dnNw h (4, 0)).1[h.1.length]? = some (4, 0) := by simp [dnNw]
  have k1 : h1.1[h.1.length]? = some (4, 0) := by rw [t1]; simp
  have k2 : h2.1[h.1.length]? = some (4, 0) := by rw [t2]; simp [List.getElem?_append]
  have k3 : h3.1[h.1.length]? = some (4, 0) := by rw [t3]; simp [List.getElem?_append]
  have k4 : h4.1[h.1.length]? = some (4, 0) := by rw [t4]; simp [List.getElem?_append]
  have A0 := dnAt_ok k0
  have A1 : dnAt (dnSI (dnNw h (4, 0)) h.1.length 1 8) (some h.1.length) 4 = some (h.1.length, 0) := dnAt_ok k0
  have A2 : dnAt (dnNw h1 (100, 12)) (some h.1.length) 4 = some (h.1.length, 0) := dnAt_ok (by rw [(exh_nw (P := fun _ => True) (h := h1)).2 h.1.length (by omega) |>.1]; exact k1)
  have A3 : dnAt (dnNw h2 (102, 12)) (some h.1.length) 4 = some (h.1.length, 0) := dnAt_ok (by rw [(exh_nw (P := fun _ => True) (h := h2)).2 h.1.length (by omega) |>.1]; exact k2)
  have A4 : dnAt (dnNw h3 (103, 12)) (some h.1.length) 4 = some (h.1.length, 0) := dnAt_ok (by rw [(exh_nw (P := fun _ => True) (h := h3)).2 h.1.length (by omega) |>.1]; exact k3)
  have A5 : dnAt (dnSR (dnNw h3 (103, 12)) h.1.length 5 (some (h.1.length + 3))) (some h.1.length) 4 = some (h.1.length, 0) := A4
  have u2 := ((exh_nw (P := fun _ => True) (h := h2) (q := (102, 12))).2 h.1.length (by omega)).2.2.2.2 trivial
  have u3 := ((exh_nw (P := fun _ => True) (h := h3) (q := (103, 12))).2 h.1.length (by omega)).2.2.2.2 trivial
  have r2 : h2.2.2.2.2 h.1.length 3 = some (h.1.length + 1) := by rw [e2]; simp [dnSR, dnUp]
  have r3 : h3.2.2.2.2 h.1.length 3 = some (h.1.length + 1) := by
    rw [e3]
    show dnUp (dnNw h2 (102, 12)).2.2.2.2 h.1.length 4 _ h.1.length 3 = _
    rw [dnUp_neK (by decide), u2]
    exact r2
  have r3' : h3.2.2.2.2 h.1.length 4 = some (h.1.length + 2) := by rw [e3]; simp [dnSR, dnUp]
  have r4 : h4.2.2.2.2 h.1.length 3 = some (h.1.length + 1) := by
    rw [e4]
    show dnUp (dnNw h3 (103, 12)).2.2.2.2 h.1.length 5 _ h.1.length 3 = _
    rw [dnUp_neK (by decide), u3]
    exact r3
  have r4' : h4.2.2.2.2 h.1.length 4 = some (h.1.length + 2) := by
    rw [e4]
    show dnUp (dnNw h3 (103, 12)).2.2.2.2 h.1.length 5 _ h.1.length 4 = _
    rw [dnUp_neK (by decide), u3]
    exact r3'
  refine ⟨h4, rfl, ?_, l4, X4, ⟨k4, ?_, ?_, ?_, ?_, ?_, ?_⟩, ?_⟩
  · simp only [fX5_init, dnCv, dnB_eval, dnCk, dnPI, dnPR, dnNa, A0, A1, Option.map_some, ← e1, n12, if_false, c12, l1, A2, ← e2, l2, A3, ← e3, l3, A4, A5, ← e4, dnP]
  · rw [t4]; simp [List.getElem?_append]
  · rw [t4]; simp [List.getElem?_append]
  · rw [t4]; simp [List.getElem?_append]
  · exact r4
  · exact r4'
  · rw [e4]
    simp [dnSI, dnSR, dnNw, dnUp, dnUpA]
  · rw [e4]
    simp [dnSI, dnSR, dnNw, dnUp, dnUpA]
theorem store_new {h : dnH} {L : Nat} (hL : h.1.length = L) : ∃ h2, dnNo 7 h = some (some L, dnNw h (7, 0)) ∧ dnCv (some L) 7 (fX9_init (some L)) (dnNw h (7, 0)) = some ((), h2) ∧ h2.1.length = L + 128 ∧ ExH (fun _ => True) h h2 ∧ StAt h2 L := by
  subst hL
  obtain ⟨L, hL⟩ : ∃ L, L = h.1.length := ⟨_, rfl⟩
  rw [← hL]
  obtain ⟨g0, e0⟩ : ∃ g0, g0 = dnNw h (7, 0) := ⟨_, rfl⟩
  obtain ⟨h1, e1⟩ : ∃ h1, h1 = dnSR (dnNw g0 (100, 5)) L 0 (some (L + 1)) := ⟨_, rfl⟩
  obtain ⟨h2, e2⟩ : ∃ h2, h2 = dnSR (dnNw h1 (100, 30)) L 1 (some (L + 2)) := ⟨_, rfl⟩
  obtain ⟨h3, e3⟩ : ∃ h3, h3 = dnSR (dnNw h2 (104, 31)) L 2 (some (L + 3)) := ⟨_, rfl⟩
  have t0 : g0.1 = h.1 ++ [(7, 0)] := by rw [e0]; rfl
  have t1 : h1.1 = h.1 ++ [(7, 0)] ++ [(100, 5)] := by rw [e1, ← t0]; rfl
  have t2 : h2.1 = h.1 ++ [(7, 0)] ++ [(100, 5)] ++ [(100, 30)] := by rw [e2, ← t1]; rfl
  have t3 : h3.1 = h.1 ++ [(7, 0)] ++ [(100, 5)] ++ [(100, 30)] ++ [(104, 31)] := by rw [e3, ← t2]; rfl
  have l0 : g0.1.length = L + 1 := by rw [t0]; simp [hL]
  have l1 : h1.1.length = L + 2 := by rw [t1]; simp [hL]
  have l2 : h2.1.length = L + 3 := by rw [t2]; simp [hL]
  have l3 : h3.1.length = L + 4 := by rw [t3]; simp [hL]
  have X0 : ExH (fun _ => True) h g0 := by rw [e0]; exact exh_nw
  have X1 : ExH (fun _ => True) h h1 := by rw [e1]; exact exh_SR (X0.tr exh_nw) (.inl (by omega))
  have X2 : ExH (fun _ => True) h h2 := by rw [e2]; exact exh_SR (X1.tr exh_nw) (.inl (by omega))
  have X3 : ExH (fun _ => True) h h3 := by rw [e3]; exact exh_SR (X2.tr exh_nw) (.inl (by omega))
  have k0 : g0.1[L]? = some (7, 0) := by rw [t0, hL]; simp
  have k1 : h1.1[L]? = some (7, 0) := by rw [t1, hL]; simp [List.getElem?_append]
  have k2 : h2.1[L]? = some (7, 0) := by rw [t2, hL]; simp [List.getElem?_append]
  have k3 : h3.1[L]? = some (7, 0) ∧ h3.1[L + 1]? = some (100, 5) ∧ h3.1[L + 2]? = some (100, 30) ∧ h3.1[L + 3]? = some (104, 31) := by
    rw [t3, hL]
    refine ⟨?_, ?_, ?_, ?_⟩ <;> simp [List.getElem?_append]
  have u1 := ((exh_nw (P := fun _ => True) (h := h1) (q := (100, 30))).2 L (by omega)).2.2.2.2 trivial
  have u2 := ((exh_nw (P := fun _ => True) (h := h2) (q := (104, 31))).2 L (by omega)).2.2.2.2 trivial
  have r1 : h1.2.2.2.2 L 0 = some (L + 1) := by rw [e1]; simp [dnSR, dnUp]
  have r2 : h2.2.2.2.2 L 0 = some (L + 1) := by
    rw [e2]
    show dnUp (dnNw h1 (100, 30)).2.2.2.2 L 1 _ L 0 = _
    rw [dnUp_neK (by decide), u1]
    exact r1
  have r2' : h2.2.2.2.2 L 1 = some (L + 2) := by rw [e2]; simp [dnSR, dnUp]
  have r3 : h3.2.2.2.2 L 0 = some (L + 1) ∧ h3.2.2.2.2 L 1 = some (L + 2) ∧ h3.2.2.2.2 L 2 = some (L + 3) := by
    rw [e3]
    refine ⟨?_, ?_, ?_⟩
    · show dnUp (dnNw h2 (104, 31)).2.2.2.2 L 2 _ L 0 = _
      rw [dnUp_neK (by decide), u2]
      exact r2
    · show dnUp (dnNw h2 (104, 31)).2.2.2.2 L 2 _ L 1 = _
      rw [dnUp_neK (by decide), u2]
      exact r2'
    · simp [dnSR, dnUp]
  have A0 := dnAt_ok k0
  have A1 : dnAt (dnNw g0 (100, 5)) (some L) 7 = some (L, 0) := dnAt_ok (by rw [(exh_nw (P := fun _ => True) (h := g0)).2 L (by omega) |>.1]; exact k0)
  have A2 : dnAt (dnNw h1 (100, 30)) (some L) 7 = some (L, 0) := dnAt_ok (by rw [(exh_nw (P := fun _ => True) (h := h1)).2 L (by omega) |>.1]; exact k1)
  have A3 : dnAt (dnNw h2 (104, 31)) (some L) 7 = some (L, 0) := dnAt_ok (by rw [(exh_nw (P := fun _ => True) (h := h2)).2 L (by omega) |>.1]; exact k2)
  have A4 := dnAt_ok k3.1
  have f1 := fillI (h := h3) (a := L + 1) (n := 5) (v := -1) k3.2.1 (by decide)
  have A5 : dnAt (flI h3 (L + 1) 5 (-1)) (some L) 7 = some (L, 0) := A4
  have f2 := fillI (h := flI h3 (L + 1) 5 (-1)) (a := L + 2) (n := 30) (v := -14) k3.2.2.1 (by decide)
  obtain ⟨h4, e4⟩ : ∃ h4, h4 = flI (flI h3 (L + 1) 5 (-1)) (L + 2) 30 (-14) := ⟨_, rfl⟩
  have X4 : ExH (fun _ => True) h h4 := by rw [e4]; exact exh_flI (exh_flI X3 (by omega)) (by omega)
  have l4 : h4.1.length = L + 4 := by rw [e4]; exact l3
  have k4 : h4.1[L]? = some (7, 0) ∧ h4.1[L + 1]? = some (100, 5) ∧ h4.1[L + 2]? = some (100, 30) ∧ h4.1[L + 3]? = some (104, 31) := by rw [e4]; exact k3
  have r4 : h4.2.2.2.2 L 0 = some (L + 1) ∧ h4.2.2.2.2 L 1 = some (L + 2) ∧ h4.2.2.2.2 L 2 = some (L + 3) := by rw [e4]; exact r3
  have KK := it_inv (f := fX9_init_b47 (some L)) (Q := fun _ k => k.1.length = L + 128 ∧ ExH (fun _ => True) h k ∧ StAt k L) (fun i u k => u = nI i ∧ k.1.length = L + 4 + 4 * i ∧ ExH (fun _ => True) h k ∧ ExH (fun a => a ≠ L + 3) h4 k ∧ ∀ n, n < i → k.2.2.2.2 (L + 3) n = some (L + 4 + 4 * n) ∧ RowAt k (L + 4 + 4 * n)) 31 1000 0 (by omega) (by omega) ?_ ?_ (nI 0) h4 ⟨rfl, l4, X4, exh_rf, fun n hn => by omega⟩
  · obtain ⟨q, h5, b1, b2, b3, b4⟩ := KK
    rw [nI_0] at b1
    refine ⟨h5, by rw [hL]; rfl, ?_, b2, b3, b4⟩
    have q1 : (dnNw g0 (100, 5)) = dnNw g0 (100, (5 : Int32).toNatClampNeg) := rfl
    have c5 : (5 : Int32).toNatClampNeg = 5 := rfl
    have c30 : (30 : Int32).toNatClampNeg = 30 := rfl
    have c31 : (31 : Int32).toNatClampNeg = 31 := rfl
    have G0 : dnGR (some L) 7 0 h3 = some (some (L + 1), h3) := by simp only [dnGR, A4, Option.map_some, r3.1]
    have G1 : dnGR (some L) 7 1 (flI h3 (L + 1) 5 (-1)) = some (some (L + 2), flI h3 (L + 1) 5 (-1)) := by
      have : (flI h3 (L + 1) 5 (-1)).2.2.2.2 L 1 = some (L + 2) := r3.2.1
      simp only [dnGR, A5, Option.map_some, this]
    have z5 : ¬ ((5 : Int32) < 0) := by decide
    have z30 : ¬ ((30 : Int32) < 0) := by decide
    have z31 : ¬ ((31 : Int32) < 0) := by decide
    simp only [← e0, fX9_init, dnCv, dnB_eval, dnCk, A0, Option.map_some, dnNa, z5, z30, z31, if_false, c5, c30, c31, l0, dnPR, A1, ← e1, l1, A2, ← e2, l2, A3, ← e3, G0, f1, G1, f2, ← e4, b1, dnP]
  · rintro i u k hi ⟨rfl, kl, kx, ky, kr⟩
    left
    have hc : ¬ ((31 : Int32) ≤ nI i) := fun hc => by have := (nI_leI (a := 31) (b := i) (by omega) (by omega)).mp hc; omega
    obtain ⟨k2, y1, y2, y3, y4, y5, y6⟩ := row_new kl (nI i)
    have kL : k.1[L]? = some (7, 0) := by rw [(ky.2 L (by omega)).1]; exact k4.1
    have rL : k.2.2.2.2 L 2 = some (L + 3) := by rw [(ky.2 L (by omega)).2.2.2.2 (by omega)]; exact r4.2.2
    have G2 : dnGR (some L) 7 2 k = some (some (L + 3), k) := by simp only [dnGR, dnAt_ok kL, Option.map_some, rL]
    have k23 : k2.1[L + 3]? = some (104, 31) := by
      rw [(y4.2 (L + 3) (by omega)).1, (ky.2 (L + 3) (by omega)).1]
      exact k4.2.2.2
    have TR : dnTR (some (L + 3)) 104 4 (nI i) (some (L + 4 + 4 * i)) k2 = some ((), dnSR k2 (L + 3) i (some (L + 4 + 4 * i))) := by
      simp only [dnTR, dnAt_ok k23, dnAt_ok y5.1, dnIn_nI (show i < 31 by omega) (by decide), if_true, nI_clamp (show i < 2 ^ 31 by omega)]
    refine ⟨nI (i + 1), dnSR k2 (L + 3) i (some (L + 4 + 4 * i)), ?_, rfl, ?_, ?_, ?_, fun n hn => ?_⟩
    · simp only [fX9_init_b47, hc, if_false, dnB_eval, G2, y1, y2, TR, dnP, nI_1]
    · show k2.1.length = _
      rw [y3]; omega
    · exact exh_SR (kx.tr y4) (.inl (by omega))
    · exact exh_SR (ky.tr (y4.im (fun _ _ _ => trivial))) (.inr (fun hc => hc rfl))
    · have rw2 : ∀ m, RowAt k2 (L + 4 + 4 * m) → RowAt (dnSR k2 (L + 3) i (some (L + 4 + 4 * i))) (L + 4 + 4 * m) := fun m w => by
        obtain ⟨w1, w2, w3, w4, w5, w6, w7⟩ := w
        have e : (dnSR k2 (L + 3) i (some (L + 4 + 4 * i))).2.2.2.2 (L + 4 + 4 * m) = k2.2.2.2.2 (L + 4 + 4 * m) := dnUp_row (by omega)
        refine ⟨w1, w2, w3, w4, ?_, ?_, ?_⟩
        · rw [e]; exact w5
        · rw [e]; exact w6
        · rw [e]; exact w7
      by_cases q : n = i
      · subst q
        exact ⟨by simp [dnSR, dnUp], rw2 n y5⟩
      · obtain ⟨z1, z2⟩ := kr n (by omega)
        refine ⟨?_, rw2 n (y4.rowAt (by omega) trivial z2)⟩
        show dnUp k2.2.2.2.2 (L + 3) i _ (L + 3) n = _
        rw [dnUp_neK q, (y4.2 (L + 3) (by omega)).2.2.2.2 trivial]
        exact z1
  · rintro u k ⟨rfl, kl, kx, ky, kr⟩
    have hc : ((31 : Int32) ≤ nI 31) := by decide
    refine ⟨(), k, by simp only [fX9_init_b47, hc, if_true, dnP], by omega, kx, ⟨?_, ?_, ?_, ?_⟩, ⟨?_, ?_, ?_⟩, kr⟩
    · rw [(ky.2 L (by omega)).1]; exact k4.1
    · rw [(ky.2 (L + 1) (by omega)).1]; exact k4.2.1
    · rw [(ky.2 (L + 2) (by omega)).1]; exact k4.2.2.1
    · rw [(ky.2 (L + 3) (by omega)).1]; exact k4.2.2.2
    · rw [(ky.2 L (by omega)).2.2.2.2 (by omega)]; exact r4.1
    · rw [(ky.2 L (by omega)).2.2.2.2 (by omega)]; exact r4.2.1
    · rw [(ky.2 L (by omega)).2.2.2.2 (by omega)]; exact r4.2.2
