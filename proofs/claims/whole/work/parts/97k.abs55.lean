/-! ABS 55: patch -/
theorem sg_of {A : Ab} {G m q r : Nat} (hq : q < m) (hr : r < 31) (e3 : A.2.1 (6 * G + q) = nI r) : sg A G m q = some (A.2.2.1 r) := by
  unfold sg gv gr
  rw [if_pos hq, e3, if_neg (nI_pos (by omega)), nI_clamp (by omega)]
  rfl
theorem fill280 {h0 h : dnH} {A : Ab} (c : CS h0 sp0 [] h A) : fJ7_fill_53178 (some 280) 0 h = some ((), flI h 280 72 0) ∧ CS h0 sp0 [] (flI h 280 72 0) A ∧ ∀ x, x < 72 → (flI h 280 72 0).2.1 280 x = if false = true then 1 else 0 := by
  refine ⟨fillI (c.1.1 (280, 100, 72) (by decide)) (by decide), c.fr (eqc_flI (by omega)), fun x hx => ?_⟩
  simp [flI, dnUpA, hx]
theorem clo_0 {N : Nat → Nat → Bool} : clo N (fun _ => false) := fun a b ha => by cases ha
def tv (x : Nat) : Int64 := ((100 * nI (x / 12) + nI (x % 12)) : Int32).toInt64
theorem tv_r {x : Nat} (hx : x < 72) : (100 : Int64) * (nI (x / 12)).toInt64 + (nI (x % 12)).toInt64 = tv x := (by decide +kernel : ∀ x, x < 72 → (100 : Int64) * (nI (x / 12)).toInt64 + (nI (x % 12)).toInt64 = tv x) x hx
theorem min_I {a b : Nat} (ha : a < 2 ^ 31) (hb : b < 2 ^ 31) : fJ9_min_7cf53 (nI a) (nI b) = dnP (nI (min a b)) := by
  unfold fJ9_min_7cf53
  by_cases q : b < a
  · rw [if_pos ((nI_ltI hb ha).mpr q), Nat.min_eq_right (by omega)]
  · rw [if_neg (fun hc => q ((nI_ltI hb ha).mp hc)), Nat.min_eq_left (by omega)]
theorem eqF {F S : Nat → Bool} {P : Nat → Prop} (h1 : ∀ c, F c = true ↔ P c) (h2 : ∀ c, S c = true ↔ P c) : S = F := by
  funext c
  rw [Bool.eq_iff_iff]
  exact (h2 c).trans (h1 c).symm
theorem step_patch {B : Nat} (g p i : Int32) : Step B B (fX4_regionOf (some 274) g p i) (fX13_patchAnswer (some 289) g p i) := by
  intro A w
  rcases lookC w g p i with ⟨f, fn, f1, f2, f3⟩ | ⟨G, q, m, r, hG, hq, hm, hr, rfl, rfl, e1, e3, hg, hl, o, kc, kr, hh⟩
  · cases hg : inB g 0 3
    · have f1 := f1 hg
      subst f1
      exact step_ro (-1) w (fun h0 h c => by simp only [fX4_regionOf, g_274_0 c.1, sv (st1 c.1), (f2 h0 _ _ h c).1, (f2 h0 _ _ h c).2, Option.elim, dnB_eval, c_isGrid, c_isKind, c_isSort, c_isPlain, r_isGrid, r_isKind, r_isSort, r_isPlain, r_in, dnP, Bool.false_eq_true, if_false, if_true]) (fun q0 k r => by simp only [fX13_patchAnswer, hg, dnB_eval, c_isGrid, c_isKind, c_isSort, c_isPlain, r_isGrid, r_isKind, r_isSort, r_isPlain, r_in, dnP, Bool.false_eq_true, if_false, if_true])
    · exact step_ro f w (fun h0 h c => by simp only [fX4_regionOf, g_274_0 c.1, sv (st1 c.1), (f2 h0 _ _ h c).1, (f2 h0 _ _ h c).2, Option.elim, dnB_eval, c_isGrid, c_isKind, c_isSort, c_isPlain, r_isGrid, r_isKind, r_isSort, r_isPlain, r_in, dnP, Bool.false_eq_true, if_false, if_true]) (fun q0 k r => by simp only [fX13_patchAnswer, hg, v_289 r.1, f3 hg q0 _ k r, (neg_fault fn).1, dnB_eval, c_isGrid, c_isKind, c_isSort, c_isPlain, r_isGrid, r_isKind, r_isSort, r_isPlain, r_in, dnP, Bool.false_eq_true, if_false, if_true])
  have z6 : ¬ ((-6 : Int32) = 0) := by decide
  rcases hh with ⟨nc, nr⟩ | ⟨I, hI, rfl, yc, yr⟩
  · exact step_ro (-6) w (fun h0 h c => by simp only [fX4_regionOf, g_274_0 c.1, sv (st1 c.1), kc h0 _ _ h c, Option.elim, rv (row1 c.1 hr), nc h0 _ _ h c, dnB_eval, c_isGrid, c_isKind, c_isSort, c_isPlain, r_isGrid, r_isKind, r_isSort, r_isPlain, r_in, dnP, Bool.false_eq_true, if_false, if_true]) (fun q0 k r => by simp only [fX13_patchAnswer, hg, v_289 r.1, nr q0 _ k r, z6, dnB_eval, c_isGrid, c_isKind, c_isSort, c_isPlain, r_isGrid, r_isKind, r_isSort, r_isPlain, r_in, dnP, Bool.false_eq_true, if_false, if_true])
  have o12 := o.2.1
  obtain ⟨s, es⟩ : ∃ s, s = 12 * q + I := ⟨_, rfl⟩
  have eq : q = s / 12 := by omega
  have eI : I = s % 12 := by omega
  have ho : (ceO (sg A G m) s).isSome = true := by
    rw [ce_y (r := r) (by rw [← eq]; exact sg_of hq hr e3), if_pos (by rw [← eI]; exact hI)]
    rfl
  obtain ⟨F, hF⟩ : ∃ F : Nat → Bool, ∀ c, F c = true ↔ Cl (nbr (sg A G m)) s c := by
    classical
    exact ⟨fun c => decide (Cl (nbr (sg A G m)) s c), fun c => decide_eq_true_iff⟩
  have Fs : F s = true := (hF s).mpr cl_rf
  obtain ⟨mn, m1, m2, m3⟩ := least_of (P := fun c => F c = true) s Fs
  have s72 := ce_lt hm ho
  have sI : 12 * nI (s / 12) + nI (s % 12) = nI s := by rw [at_r, show 12 * (s / 12) + s % 12 = s by omega]
  subst eq eI
  refine ⟨nI (cN F 72), setN A (tv mn, A.2.2.2.2), w.note, fun h0 h c => ?_, fun q0 k r => ?_⟩
  · obtain ⟨a1, c1, a3⟩ := fill280 c
    obtain ⟨h2, S, n, L, b1, c2, k2, l2, hS⟩ := spread_c w hG hm e1 clo_0 rfl ho c1 a3
    have eS := eqF hF hS
    subst eS
    have n4 := k2.2.2
    have nc := lst_len l2
    have n72 : n ≤ 72 := by rw [nc]; exact cN_le S 72
    obtain ⟨i0, hi0, -⟩ := l2.2.1 s Fs
    have KK := it_inv (f := fX4_regionOf_b64 (some 274)) (Q := fun v k => v = nI mn ∧ k = h2) (fun t u k => k = h2 ∧ ∃ x, u = (nI x, nI (t + 1)) ∧ (∃ i, i < t + 1 ∧ L i = x) ∧ ∀ i, i < t + 1 → x ≤ L i) (n - 1) 1000 0 (by omega) (by omega) ?_ ?_ (nI (L 0), nI 1) h2 ⟨rfl, L 0, rfl, ⟨0, by omega, rfl⟩, fun i hi => by rw [show i = 0 by omega]; exact Nat.le_refl _⟩
    · obtain ⟨q, h3, d1, rfl, rfl⟩ := KK
      have d1 : dnIt 1000 (fX4_regionOf_b64 (some 274)) (nI (L 0), 1) h3 = some (nI mn, h3) := d1
      have r0 : dnAI (some 279) 100 0 h3 = some (nI (L 0), h3) := by
        have := a_279 c2.1 (nI 0)
        rw [dnIn_nI (show 0 < 72 by decide) (by decide), nI_clamp (by decide), k2.2.1 0 (by omega)] at this
        exact this
      refine ⟨_, ?_, c2.told _⟩
      have et : ((100 * nI (mn / 12) + nI (mn % 12)) : Int32).toInt64 = tv mn := rfl
      have e4 : dnGI (some 274) 3 4 (dnSL h3 258 0 (tv mn)) = some (nI (cN S 72), dnSL h3 258 0 (tv mn)) := by
        rw [g_274_4 (c2.told (tv mn)).1, ← nc, ← n4]
        rfl
      simp only [fX4_regionOf, g_274_0 c.1, sv (st1 c.1), kc h0 _ _ h c, Option.elim, rv (row1 c.1 hr), yc h0 _ _ h c, if_true, g_274_5 c.1, a1, v_274 c1.1, b1, g_274_3 c2.1, r0, d1, g_274_1 c2.1, dnNz, n12, if_false, dv12 (show mn < 100 by omega), md12 (show mn < 100 by omega), et, p_258_0 c2.1, e4, dnB_eval, dnP]
    · rintro t u k ht ⟨rfl, x, rfl, ⟨i, hi, ex⟩, hx⟩
      left
      have x72 : x < 72 := by rw [← ex]; exact (l2.1 i (by omega)).1
      have L72 := (l2.1 (t + 1) (by omega)).1
      have hc : ¬ (nI n ≤ nI (t + 1)) := fun hc => by have := (nI_leI (a := n) (b := t + 1) (by omega) (by omega)).mp hc; omega
      have rt : dnAI (some 279) 100 (nI (t + 1)) k = some (nI (L (t + 1)), k) := by
        rw [a_279 c2.1, dnIn_nI (show t + 1 < 72 by omega) (by decide), nI_clamp (by omega), k2.2.1 (t + 1) (by omega)]
        rfl
      refine ⟨(nI (min x (L (t + 1))), nI (t + 1 + 1)), k, ?_, rfl, _, rfl, ?_, fun j hj => ?_⟩
      · simp only [fX4_regionOf_b64, dnB_eval, g_274_4 c2.1, n4, hc, if_false, g_274_3 c2.1, rt, min_I (show x < 2 ^ 31 by omega) (show L (t + 1) < 2 ^ 31 by omega), dnP, nI_1]
      · by_cases qq : L (t + 1) < x
        · exact ⟨t + 1, by omega, by omega⟩
        · exact ⟨i, by omega, by omega⟩
      · by_cases qq : j = t + 1
        · rw [qq]; exact Nat.min_le_right _ _
        · exact Nat.le_trans (Nat.min_le_left _ _) (hx j (by omega))
    · rintro u k ⟨rfl, x, rfl, ⟨i, hi, ex⟩, hx⟩
      have en : n - 1 + 1 = n := by omega
      rw [en] at hi hx
      refine ⟨nI x, k, by simp only [fX4_regionOf_b64, dnB_eval, g_274_4 c2.1, n4, en, Int32.le_refl, if_true, dnP], ?_, rfl⟩
      have hxS : S x = true := by rw [← ex]; exact (l2.1 i hi).2
      obtain ⟨j, hj, ej⟩ := l2.2.1 mn m2
      have h1 := hx j hj
      have h2 : mn ≤ x := by
        by_cases qq : x < mn
        · exact absurd hxS (m3 x qq)
        · omega
      rw [show x = mn by omega]
  · obtain ⟨h1, a1, c1, k1⟩ := noMarks_r r
    obtain ⟨h2, T, b1, c2, k2, hT⟩ := grows_r (K := 1) (ol := fun _ => 0) (M := fun _ => false) w hG hm e1 (by decide) (fun _ _ => by omega) (fun _ _ => ⟨fun _ => rfl, fun _ => rfl⟩) clo_0 rfl ho c1 k1
    have eT := eqF hF hT
    subst eT
    have b1 : fX13_grows (some 289) (nI G) (nI s) 1 h1 = some (nI (cN T 72), h2) := b1
    have d1 := dnIt_run (f := fX13_patchAnswer_b47 (some 289) (nI (cN T 72))) (q := nI mn) (hq := h2) mn 1000 (fun i => (nI i, h2)) (by omega) (fun x hx => by
      have mx := mk_A c2 k2 (show x < 72 by omega)
      have ex : lbl (fun _ => 0) T 1 x = 0 := by unfold lbl; exact if_neg (m3 x hx)
      rw [ex] at mx
      simp only [fX13_patchAnswer_b47, dnB_eval, g_289_26 c2.1, mx, nI_0, not_true_eq_false, if_false, dnP, nI_1]) (by
      have mx := mk_A c2 k2 (show mn < 72 by omega)
      have ex : lbl (fun _ => 0) T 1 mn = 1 := by unfold lbl; exact if_pos m2
      rw [ex] at mx
      have o1 : ¬ (nI 1 = 0) := by decide
      simp only [fX13_patchAnswer_b47, dnB_eval, g_289_26 c2.1, mx, o1, not_false_eq_true, if_true, dnP])
    have d1 : dnIt 1000 (fX13_patchAnswer_b47 (some 289) (nI (cN T 72))) 0 h2 = some (nI mn, h2) := d1
    obtain ⟨t1, c3⟩ := tells_A c2 (tv mn) (nI (cN T 72))
    refine ⟨_, _, ?_, c3⟩
    simp only [fX13_patchAnswer, hg, v_289 r.1, yr q0 _ k r, a1, v_289 c1.1, sI, b1, d1, dnNz, n12, if_false, dv12 (show mn < 100 by omega), md12 (show mn < 100 by omega), tv_r (show mn < 72 by omega), v_289 c2.1, t1, dnB_eval, c_isGrid, c_isKind, c_isSort, c_isPlain, r_isGrid, r_isKind, r_isSort, r_isPlain, r_in, dnP, Bool.false_eq_true, if_false, if_true]
theorem call_patch {B : Nat} (g p i : Int32) : Call B B (fX12_patch (some 0) g p i) (fX13_patch (some 289) g p i) :=
  callA (Nat.le_refl _) (fun h v h1 s1 s2 e => by simp only [fX12_patch, dnB_eval, g_0_8 s1, v_274 s1, e, v_0 s2, tally_c s2, dnP]) (fun h v h1 s1 s2 e => by simp only [fX13_patch, dnB_eval, v_289 s1, e, v_289 s2, said_r s2, dnP]) (step_patch g p i)
