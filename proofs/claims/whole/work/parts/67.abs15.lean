/-! ABS 15: pour, join -/
def pourR (R Q : Rw) (n : Nat) : Rw := (R.1, R.2.1, fun j => if j < n ∧ tk R.1 (Q.2.2 j).1 = true then cvt R.1 (Q.2.2 j) else R.2.2 j)
theorem pourR_0 {R Q : Rw} : pourR R Q 0 = R := by
  unfold pourR
  have : (fun j => if j < 0 ∧ tk R.1 (Q.2.2 j).1 = true then cvt R.1 (Q.2.2 j) else R.2.2 j) = R.2.2 := by
    funext j
    rw [if_neg (by omega)]
  rw [this]
theorem pourR_y {R Q : Rw} {n : Nat} (h : tk R.1 (Q.2.2 n).1 = true) : pourR R Q (n + 1) = setC (pourR R Q n) n (cvt R.1 (Q.2.2 n)) := by
  unfold pourR setC
  have : (fun j => if j < n + 1 ∧ tk R.1 (Q.2.2 j).1 = true then cvt R.1 (Q.2.2 j) else R.2.2 j) = (fun j => if j = n then cvt R.1 (Q.2.2 n) else if j < n ∧ tk R.1 (Q.2.2 j).1 = true then cvt R.1 (Q.2.2 j) else R.2.2 j) := by
    funext j
    by_cases q : j = n
    · subst q
      rw [if_pos ⟨by omega, h⟩, if_pos rfl]
    · rw [if_neg q]
      by_cases q2 : j < n ∧ tk R.1 (Q.2.2 j).1 = true
      · rw [if_pos q2, if_pos ⟨by omega, q2.2⟩]
      · rw [if_neg q2, if_neg (fun hc => q2 ⟨by omega, hc.2⟩)]
  rw [this]
theorem pourR_n {R Q : Rw} {n : Nat} (h : tk R.1 (Q.2.2 n).1 = false) : pourR R Q (n + 1) = pourR R Q n := by
  unfold pourR
  have : (fun j => if j < n + 1 ∧ tk R.1 (Q.2.2 j).1 = true then cvt R.1 (Q.2.2 j) else R.2.2 j) = (fun j => if j < n ∧ tk R.1 (Q.2.2 j).1 = true then cvt R.1 (Q.2.2 j) else R.2.2 j) := by
    funext j
    by_cases q : j = n
    · subst q
      rw [if_neg (fun hc => by rw [h] at hc; cases hc.2), if_neg (by omega)]
    · by_cases q2 : j < n ∧ tk R.1 (Q.2.2 j).1 = true
      · rw [if_pos q2, if_pos ⟨by omega, q2.2⟩]
      · rw [if_neg q2, if_neg (fun hc => q2 ⟨by omega, hc.2⟩)]
  rw [this]
theorem rwOk_pour {B : Nat} {R Q : Rw} {n : Nat} (hB : 16 ≤ B) (h : rwOk B R) (hQ : ∀ i, i < 12 → (Q.2.2 i).1 < 12 ∧ valOk B (Q.2.2 i).1 (Q.2.2 i).2.1 (Q.2.2 i).2.2) : rwOk B (pourR R Q n) := ⟨h.1, h.2.1, fun j hj => by
  show celOk B R.1 (if j < n ∧ tk R.1 (Q.2.2 j).1 = true then cvt R.1 (Q.2.2 j) else R.2.2 j)
  split
  · rename_i q
    exact celOk_cvt hB h.1 (hQ j hj).1 q.2 (hQ j hj).2
  · exact h.2.2 j hj⟩
def cI (F : Nat → Bool) : Nat → Int32
  | 0 => 0
  | n + 1 => if F n then cI F n + 1 else cI F n
def fI (F : Nat → Bool) : Nat → Int32
  | 0 => -9
  | n + 1 => if F n then fI F n else if fI F n = -9 then nI n else fI F n
theorem setN_setN {A : Ab} {N N2 : Int64 × Int32 × Int32} : setN (setN A N) N2 = setN A N2 := rfl
theorem step_pour {B : Nat} (hB : 16 ≤ B) (g p g2 p2 : Int32) : Step B B (fX6_pourInto (some 259) g p g2 p2) (fX13_pourDeed (some 289) g p g2 p2) := by
  intro A w
  cases hg : inB g 0 3
  · exact step_ro (-1) w (fun h0 h c => by simp only [fX6_pourInto, hg, dnB_eval, c_isGrid, c_isKind, c_isSort, c_isPlain, r_isGrid, r_isKind, r_isSort, r_isPlain, r_in, dnP, Bool.false_eq_true, if_false, if_true]) (fun q0 q r => by simp only [fX13_pourDeed, hg, dnB_eval, c_isGrid, c_isKind, c_isSort, c_isPlain, r_isGrid, r_isKind, r_isSort, r_isPlain, r_in, dnP, Bool.false_eq_true, if_false, if_true])
  cases hk : inB g2 0 3
  · exact step_ro (-1) w (fun h0 h c => by simp only [fX6_pourInto, hg, hk, dnB_eval, c_isGrid, c_isKind, c_isSort, c_isPlain, r_isGrid, r_isKind, r_isSort, r_isPlain, r_in, dnP, Bool.false_eq_true, if_false, if_true]) (fun q0 q r => by simp only [fX13_pourDeed, hg, hk, dnB_eval, c_isGrid, c_isKind, c_isSort, c_isPlain, r_isGrid, r_isKind, r_isSort, r_isPlain, r_in, dnP, Bool.false_eq_true, if_false, if_true])
  rcases lookR w g p with ⟨f, f0, -, f2, f3⟩ | ⟨G, P, m, r, hG, hP, hm, hr, rfl, rfl, e1, e2, -, hl, -, hrw, l1, l2⟩
  · obtain ⟨n1, n2⟩ := neg_fault f0
    exact step_ro f w (fun h0 h c => by simp only [fX6_pourInto, hg, hk, g_259_0 c.1, sv (st1 c.1), (f2 h0 _ _ h c).1, (f2 h0 _ _ h c).2, Option.elim, dnB_eval, c_isGrid, c_isKind, c_isSort, c_isPlain, r_isGrid, r_isKind, r_isSort, r_isPlain, r_in, dnP, Bool.false_eq_true, if_false, if_true]) (fun q0 q r => by simp only [fX13_pourDeed, fX13_twoRows, hg, hk, v_289 r.1, f3 hg q0 _ q r, n1, dnB_eval, c_isGrid, c_isKind, c_isSort, c_isPlain, r_isGrid, r_isKind, r_isSort, r_isPlain, r_in, dnP, Bool.false_eq_true, if_false, if_true])
  rcases lookR w g2 p2 with ⟨f, f0, -, f2, f3⟩ | ⟨G2, P2, m2, t, hG2, hP2, hm2, ht, rfl, rfl, e12, e22, -, hlt, -, htw, k1, k2⟩
  · obtain ⟨n1, n2⟩ := neg_fault f0
    exact step_ro f w (fun h0 h c => by simp only [fX6_pourInto, hg, hk, g_259_0 c.1, sv (st1 c.1), l1 h0 _ _ h c, (f2 h0 _ _ h c).1, (f2 h0 _ _ h c).2, Option.elim, dnB_eval, c_isGrid, c_isKind, c_isSort, c_isPlain, r_isGrid, r_isKind, r_isSort, r_isPlain, r_in, dnP, Bool.false_eq_true, if_false, if_true]) (fun q0 q r => by simp only [fX13_pourDeed, fX13_twoRows, hg, hk, v_289 r.1, (l2 q0 _ q r).1, f3 hk q0 _ q r, n1, dnB_eval, c_isGrid, c_isKind, c_isSort, c_isPlain, r_isGrid, r_isKind, r_isSort, r_isPlain, r_in, dnP, Bool.false_eq_true, if_false, if_true])
  have N1 := hrw.2.1
  have N2 := htw.2.1
  have mn : min (A.2.2.1 r).2.1 (A.2.2.1 t).2.1 ≤ (A.2.2.1 r).2.1 := Nat.min_le_left _ _
  have mn2 : min (A.2.2.1 r).2.1 (A.2.2.1 t).2.1 ≤ (A.2.2.1 t).2.1 := Nat.min_le_right _ _
  have mn3 : min (A.2.2.1 r).2.1 (A.2.2.1 t).2.1 = (A.2.2.1 r).2.1 ∨ min (A.2.2.1 r).2.1 (A.2.2.1 t).2.1 = (A.2.2.1 t).2.1 := by omega
  generalize hN : min (A.2.2.1 r).2.1 (A.2.2.1 t).2.1 = N at mn mn2 mn3
  let F : Nat → Bool := fun i => tk (A.2.2.1 t).1 ((A.2.2.1 r).2.2 i).1
  let D : Nat → Ab := fun j => setN (setR A t (pourR (A.2.2.1 t) (A.2.2.1 r) j)) (A.2.2.2.1, fI F j, A.2.2.2.2.2)
  have D0 : D 0 = setN A (A.2.2.2.1, -9, A.2.2.2.2.2) := by
    show setN (setR A t (pourR (A.2.2.1 t) (A.2.2.1 r) 0)) (A.2.2.2.1, -9, A.2.2.2.2.2) = _
    rw [pourR_0, setR_self]
  have rowt : ∀ j, (D j).2.2.1 t = pourR (A.2.2.1 t) (A.2.2.1 r) j := fun j => setR_at
  have okt : ∀ j, rwOk B (pourR (A.2.2.1 t) (A.2.2.1 r) j) := fun j => rwOk_pour hB htw (fun i hi => ⟨(hrw.2.2 i hi).1, (hrw.2.2 i hi).2.2.2⟩)
  have rowr : ∀ j, ((D j).2.2.1 r).1 = (A.2.2.1 r).1 ∧ ((D j).2.2.1 r).2.1 = (A.2.2.1 r).2.1 ∧ ∀ i, j ≤ i → ((D j).2.2.1 r).2.2 i = (A.2.2.1 r).2.2 i := fun j => by
    by_cases q : r = t
    · subst q
      rw [rowt j]
      refine ⟨rfl, rfl, fun i hi => ?_⟩
      show (if i < j ∧ _ then _ else _) = _
      rw [if_neg (by omega)]
    · have : (D j).2.2.1 r = A.2.2.1 r := setR_ne q
      rw [this]
      exact ⟨rfl, rfl, fun _ _ => rfl⟩
  have celr : ∀ j, j < N → celOk B ((D j).2.2.1 r).1 (((D j).2.2.1 r).2.2 j) := fun j hj => by
    rw [(rowr j).1, (rowr j).2.2 j (Nat.le_refl _)]
    exact hrw.2.2 j (by omega)
  have Dy : ∀ j, F j = true → D (j + 1) = setR (D j) t (setC (pourR (A.2.2.1 t) (A.2.2.1 r) j) j (cvt (A.2.2.1 t).1 ((A.2.2.1 r).2.2 j))) := fun j hj => by
    show setN (setR A t (pourR (A.2.2.1 t) (A.2.2.1 r) (j + 1))) (A.2.2.2.1, (if F j = true then fI F j else if fI F j = -9 then nI j else fI F j), A.2.2.2.2.2) = _
    rw [if_pos hj, pourR_y hj]
    show _ = setN (setR (setR A t (pourR (A.2.2.1 t) (A.2.2.1 r) j)) t (setC (pourR (A.2.2.1 t) (A.2.2.1 r) j) j (cvt (A.2.2.1 t).1 ((A.2.2.1 r).2.2 j)))) (A.2.2.2.1, fI F j, A.2.2.2.2.2)
    rw [setR_setR]
  have Dn : ∀ j, F j = false → D (j + 1) = setN (D j) (A.2.2.2.1, (if fI F j = -9 then nI j else fI F j), A.2.2.2.2.2) := fun j hj => by
    show setN (setR A t (pourR (A.2.2.1 t) (A.2.2.1 r) (j + 1))) (A.2.2.2.1, (if F j = true then fI F j else if fI F j = -9 then nI j else fI F j), A.2.2.2.2.2) = _
    rw [if_neg (by rw [hj]; decide), pourR_n hj]
    rfl
  have Dn2 : ∀ j, F j = false → fI F j ≠ -9 → D (j + 1) = D j := fun j hj h9 => by rw [Dn j hj, if_neg h9]; rfl
  have Dn3 : ∀ j, F j = false → fI F j = -9 → D (j + 1) = setN (D j) ((D j).2.2.2.1, nI j, (D j).2.2.2.2.2) := fun j hj h9 => by rw [Dn j hj, if_pos h9]; rfl
  refine ⟨cI F N, D N, ((w.setR (X := []) (Y := []) (fun m hm => .inr hm) (okt N)).note), fun h0 h c => ?_, fun q0 k r' => ?_⟩
  · have c0 := c.first (-9)
    rw [← D0] at c0
    have KK := it_inv (f := fX6_pourInto_b85 (some 259) (some (5 + 4 * r)) (some (5 + 4 * t))) (Q := fun q k => q = cI F N ∧ CS h0 sp0 [] k (D N)) (fun j s k => s = (cI F j, nI j) ∧ CS h0 sp0 [] k (D j)) N 1000 0 (by omega) (by omega) ?_ ?_ (cI F 0, nI 0) (dnSI h 258 1 (-9)) ⟨rfl, c0⟩
    · obtain ⟨_, h2, b1, rfl, c2⟩ := KK
      refine ⟨h2, ?_, c2⟩
      have b1 : dnIt 1000 (fX6_pourInto_b85 (some 259) (some (5 + 4 * r)) (some (5 + 4 * t))) (0, 0) (dnSI h 258 1 (-9)) = some (cI F N, h2) := b1
      simp only [fX6_pourInto, hg, hk, g_259_0 c.1, g_259_1 c.1, p_258_1 c.1, sv (st1 c.1), l1 h0 _ _ h c, k1 h0 _ _ h c, Option.elim, b1, dnB_eval, c_isGrid, c_isKind, c_isSort, c_isPlain, r_isGrid, r_isKind, r_isSort, r_isPlain, r_in, dnP, Bool.false_eq_true, if_false, if_true]
    · rintro j s k hj ⟨rfl, ck⟩
      left
      have rr := (ck.row hr hl).2.1
      rw [(rowr j).2.1] at rr
      have rt := (ck.row ht hlt).2.1
      rw [rowt j] at rt
      have rt : k.2.1 (5 + 4 * t) 2 = nI (A.2.2.1 t).2.1 := rt
      have hc : ¬ (nI (A.2.2.1 r).2.1 ≤ nI j) := fun hc => by have := (nI_leI (a := (A.2.2.1 r).2.1) (b := j) (by omega) (by omega)).mp hc; omega
      have hc2 : ¬ (nI (A.2.2.1 t).2.1 ≤ nI j) := fun hc => by have := (nI_leI (a := (A.2.2.1 t).2.1) (b := j) (by omega) (by omega)).mp hc; omega
      obtain ⟨k2, b1, b2⟩ := accept_S (B := B) (i := j) (j := j) ck ht hlt hr hl (by omega) (by omega) (by rw [rowt j]; exact okt j) (celr j hj)
      rw [rowt j, (rowr j).2.2 j (Nat.le_refl _)] at b1 b2
      have b1 : fX5_accept (some (5 + 4 * t)) (nI j) (some (5 + 4 * r)) (nI j) k = some (F j, k2) := b1
      have b2 : CS h0 sp0 [] k2 (if F j = true then setR (D j) t (setC (pourR (A.2.2.1 t) (A.2.2.1 r) j) j (cvt (A.2.2.1 t).1 ((A.2.2.1 r).2.2 j))) else D j) := b2
      cases hF : F j
      · rw [hF] at b1 b2
        have b2 : CS h0 sp0 [] k2 (D j) := b2
        have nt : k2.2.1 258 1 = fI F j := b2.2.2.2.2.2.2.1
        have cn : cI F (j + 1) = cI F j := by show (if F j = true then _ else _) = _; rw [hF]; rfl
        by_cases h9 : fI F j = -9
        · have c3 := b2.first (nI j)
          rw [← Dn3 j hF h9] at c3
          refine ⟨_, _, ?_, rfl, c3⟩
          rw [cn]
          simp only [fX6_pourInto_b85, fX6_pourInto_j146, dnB_eval, rg_i (row1 ck.1 hr), rg_i (row1 ck.1 ht), rr, rt, hc, hc2, if_false, rv (row1 ck.1 ht), b1, Bool.false_eq_true, g_259_1 b2.1, g_258_1 b2.1, nt, h9, not_true_eq_false, p_258_1 b2.1, dnP, nI_1]
        · refine ⟨_, k2, ?_, rfl, by rw [Dn2 j hF h9]; exact b2⟩
          rw [cn]
          simp only [fX6_pourInto_b85, fX6_pourInto_j146, dnB_eval, rg_i (row1 ck.1 hr), rg_i (row1 ck.1 ht), rr, rt, hc, hc2, if_false, rv (row1 ck.1 ht), b1, Bool.false_eq_true, g_259_1 b2.1, g_258_1 b2.1, nt, h9, not_false_eq_true, if_true, dnP, nI_1]
      · rw [hF] at b1 b2
        have cn : cI F (j + 1) = cI F j + 1 := by show (if F j = true then _ else _) = _; rw [hF]; rfl
        refine ⟨_, k2, ?_, rfl, by rw [Dy j hF]; exact b2⟩
        rw [cn]
        simp only [fX6_pourInto_b85, fX6_pourInto_j146, dnB_eval, rg_i (row1 ck.1 hr), rg_i (row1 ck.1 ht), rr, rt, hc, hc2, if_false, rv (row1 ck.1 ht), b1, if_true, dnP, nI_1]
    · rintro s k ⟨rfl, ck⟩
      have rr := (ck.row hr hl).2.1
      rw [(rowr N).2.1] at rr
      have rt := (ck.row ht hlt).2.1
      rw [rowt N] at rt
      have rt : k.2.1 (5 + 4 * t) 2 = nI (A.2.2.1 t).2.1 := rt
      by_cases d : (A.2.2.1 r).2.1 ≤ N
      · have hc : (nI (A.2.2.1 r).2.1 ≤ nI N) := (nI_leI (a := (A.2.2.1 r).2.1) (b := N) (by omega) (by omega)).mpr d
        exact ⟨_, k, by simp only [fX6_pourInto_b85, dnB_eval, rg_i (row1 ck.1 hr), rr, hc, if_true, dnP], rfl, ck⟩
      · have hc : ¬ (nI (A.2.2.1 r).2.1 ≤ nI N) := fun hc => d ((nI_leI (a := (A.2.2.1 r).2.1) (b := N) (by omega) (by omega)).mp hc)
        have hc2 : (nI (A.2.2.1 t).2.1 ≤ nI N) := (nI_leI (a := (A.2.2.1 t).2.1) (b := N) (by omega) (by omega)).mpr (by omega)
        exact ⟨_, k, by simp only [fX6_pourInto_b85, dnB_eval, rg_i (row1 ck.1 hr), rg_i (row1 ck.1 ht), rr, rt, hc, hc2, if_false, if_true, dnP], rfl, ck⟩
  · have c0 := r'.first (-9)
    rw [← D0] at c0
    have bth : ∀ j k, RS q0 [] k (D j) → fX13_both (some 289) (nI r) (nI t) k = some (nI N, k) := fun j k rk => by
      have := both_A rk hr hl ht hlt (by rw [(rowr j).2.1]; exact N1) (by rw [rowt j]; exact N2)
      rw [(rowr j).2.1, rowt j] at this
      have this : fX13_both (some 289) (nI r) (nI t) k = some (nI (min (A.2.2.1 r).2.1 (A.2.2.1 t).2.1), k) := this
      rw [hN] at this
      exact this
    have KK := it_inv (f := fX13_pourDeed_b64 (some 289) (nI r) (nI t)) (Q := fun q k => q = cI F N ∧ RS q0 [] k (D N)) (fun j s k => s = (cI F j, nI j) ∧ RS q0 [] k (D j)) N 1000 0 (by omega) (by omega) ?_ ?_ (cI F 0, nI 0) (dnSI k 289 2 (-9)) ⟨rfl, c0⟩
    · obtain ⟨_, h2, b1, rfl, c2⟩ := KK
      refine ⟨h2, _, ?_, c2⟩
      have b1 : dnIt 1000 (fX13_pourDeed_b64 (some 289) (nI r) (nI t)) (0, 0) (dnSI k 289 2 (-9)) = some (cI F N, h2) := b1
      simp only [fX13_pourDeed, fX13_twoRows, hg, hk, v_289 r'.1, (l2 q0 _ k r').1, (l2 q0 _ k r').2, (k2 q0 _ k r').1, (k2 q0 _ k r').2, p_289_2 r'.1, b1, dnB_eval, c_isGrid, c_isKind, c_isSort, c_isPlain, r_isGrid, r_isKind, r_isSort, r_isPlain, r_in, dnP, Bool.false_eq_true, if_false, if_true]
    · rintro j s k hj ⟨rfl, ck⟩
      left
      have hc : ¬ (nI N ≤ nI j) := fun hc => by have := (nI_leI (a := N) (b := j) (by omega) (by omega)).mp hc; omega
      obtain ⟨ka, a1, ca, va⟩ := loads_A ck hr hl (show j < 12 by omega)
      have cel := celr j hj
      rw [(rowr j).2.2 j (Nat.le_refl _)] at va cel
      obtain ⟨k2, b1, b2⟩ := puts_A (B := B) ca va ht hlt (show j < 12 by omega) (by rw [rowt j]; exact htw.1) cel.1 cel.2.2.2
      rw [rowt j] at b1 b2
      have b1 : fX13_puts (some 289) (nI t) (nI j) ka = some (F j, k2) := b1
      have b2 : RS q0 [] k2 (if F j = true then setR (D j) t (setC (pourR (A.2.2.1 t) (A.2.2.1 r) j) j (cvt (A.2.2.1 t).1 ((A.2.2.1 r).2.2 j))) else D j) := b2
      cases hF : F j
      · rw [hF] at b1 b2
        have b2 : RS q0 [] k2 (D j) := b2
        have nt : k2.2.1 289 2 = fI F j := b2.2.2.2.2.1.2.1
        have cn : cI F (j + 1) = cI F j := by show (if F j = true then _ else _) = _; rw [hF]; rfl
        by_cases h9 : fI F j = -9
        · have c3 := b2.first (nI j)
          rw [← Dn3 j hF h9] at c3
          refine ⟨_, _, ?_, rfl, c3⟩
          rw [cn]
          simp only [fX13_pourDeed_b64, fX13_pourDeed_j117, dnB_eval, v_289 ck.1, bth j k ck, hc, if_false, a1, v_289 ca.1, b1, Bool.false_eq_true, g_289_2 b2.1, nt, h9, not_true_eq_false, p_289_2 b2.1, dnP, nI_1]
        · refine ⟨_, k2, ?_, rfl, by rw [Dn2 j hF h9]; exact b2⟩
          rw [cn]
          simp only [fX13_pourDeed_b64, fX13_pourDeed_j117, dnB_eval, v_289 ck.1, bth j k ck, hc, if_false, a1, v_289 ca.1, b1, Bool.false_eq_true, g_289_2 b2.1, nt, h9, not_false_eq_true, if_true, dnP, nI_1]
      · rw [hF] at b1 b2
        have cn : cI F (j + 1) = cI F j + 1 := by show (if F j = true then _ else _) = _; rw [hF]; rfl
        refine ⟨_, k2, ?_, rfl, by rw [Dy j hF]; exact b2⟩
        rw [cn]
        simp only [fX13_pourDeed_b64, fX13_pourDeed_j117, dnB_eval, v_289 ck.1, bth j k ck, hc, if_false, a1, v_289 ca.1, b1, if_true, dnP, nI_1]
    · rintro s k ⟨rfl, ck⟩
      exact ⟨_, k, by simp only [fX13_pourDeed_b64, dnB_eval, v_289 ck.1, bth N k ck, Int32.le_refl, if_true, dnP], rfl, ck⟩

theorem call_pour {B : Nat} (hB : 16 ≤ B) (g p g2 p2 : Int32) : Call B B (fX12_pour (some 0) g p g2 p2) (fX13_pour (some 289) g p g2 p2) :=
  callA (Nat.le_refl _) (fun h v h1 s1 s2 e => by simp only [fX12_pour, dnB_eval, g_0_4 s1, v_259 s1, e, v_0 s2, tally_c s2, dnP]) (fun h v h1 s1 s2 e => by simp only [fX13_pour, dnB_eval, v_289 s1, e, v_289 s2, said_r s2, dnP]) (step_pour hB g p g2 p2)
