/-! ABS 49: block -/
theorem cand_iff {A : Ab} {G p z : Nat} (hz : z < 12) : ∀ t, (∀ k, k < t → rdR (gv A (6 * G + (p + k))) z = true) ↔ (al A G p t = true ∧ z < wdt A G p t) := by
  intro t
  induction t with
  | zero => exact ⟨fun _ => ⟨rfl, hz⟩, fun _ k hk => by omega⟩
  | succ t ih =>
    have e : rdR (gv A (6 * G + (p + t))) z = (decide (z < lnR (gv A (6 * G + (p + t)))) && okR (gv A (6 * G + (p + t)))) := by
      cases gv A (6 * G + (p + t)) with
      | none => rfl
      | some R => rfl
    have ea : al A G p (t + 1) = (al A G p t && okR (gv A (6 * G + (p + t)))) := rfl
    have ew : wdt A G p (t + 1) = min (wdt A G p t) (lnR (gv A (6 * G + (p + t)))) := rfl
    constructor
    · intro h
      obtain ⟨h1, h2⟩ := ih.mp (fun k hk => h k (by omega))
      have h3 := h t (by omega)
      rw [e] at h3
      obtain ⟨h4, h5⟩ := Bool.and_eq_true_iff.mp h3
      have h4 := of_decide_eq_true h4
      rw [ea, ew, h1, h5]
      exact ⟨rfl, by omega⟩
    · rintro ⟨h1, h2⟩ k hk
      rw [ea] at h1
      rw [ew] at h2
      obtain ⟨h3, h4⟩ := Bool.and_eq_true_iff.mp h1
      by_cases q : k = t
      · rw [q, e, h4, decide_eq_true (by omega)]
        rfl
      · exact ih.mpr ⟨h3, by omega⟩ k (by omega)
theorem blockZ_r {B : Nat} {A : Ab} (w : Wf B [] A) {G m p y x : Nat} (hG : G < 4) (hm : m ≤ 6) (e1 : A.1 G = nI m) (hp : p ≤ y) (hy : y < m) (hx : x < 12) {q0 h : dnH} {s : Int32 × Int64} (c : RS q0 [] h A) : ∃ h2, dnIt 1000 (fX13_blockAnswer_b69 (some 289) (nI G) (nI p) (nI x) (nI y)) (s.1, s.2, nI x) h = some (if al A G p (y + 1 - p) = true then bz A G p x y s (wdt A G p (y + 1 - p) - x) else s, h2) ∧ RS q0 [] h2 A := by
  let V : Nat → Int32 × Int64 := fun j => if al A G p (y + 1 - p) = true then bz A G p x y s (min j (wdt A G p (y + 1 - p) - x)) else s
  have wl := wdt_le (A := A) (G := G) (p := p) (y + 1 - p)
  have KK := it_inv (f := fX13_blockAnswer_b69 (some 289) (nI G) (nI p) (nI x) (nI y)) (Q := fun q k => q = V (12 - x) ∧ RS q0 [] k A) (fun j u k => u = ((V j).1, (V j).2, nI (x + j)) ∧ RS q0 [] k A) (12 - x) 1000 0 (by omega) (by omega) ?_ ?_ (s.1, s.2, nI x) h ⟨?_, c⟩
  · obtain ⟨q, h2, b1, rfl, c2⟩ := KK
    refine ⟨h2, ?_, c2⟩
    rw [b1]
    show some (if al A G p (y + 1 - p) = true then bz A G p x y s (min (12 - x) (wdt A G p (y + 1 - p) - x)) else s, h2) = _
    rw [Nat.min_eq_right (by omega)]
  · rintro j u k hj ⟨rfl, ck⟩
    left
    have hc : ¬ ((12 : Int32) ≤ nI (x + j)) := fun hc => by have := (nI_leI (a := 12) (b := x + j) (by omega) (by omega)).mp hc; omega
    have ej : nI (x + j + 1) = nI (x + (j + 1)) := rfl
    obtain ⟨b, h2, x1, x2, x3, x4⟩ := isBlock_A w hG hm e1 hp hy (show x ≤ x + j by omega) (show x + j < 12 by omega) ck
    have x3 : b = true ↔ (al A G p (y + 1 - p) = true ∧ x + j < wdt A G p (y + 1 - p)) := by
      rw [x3, ← cand_iff (by omega)]
      constructor
      · intro hh k hk
        exact hh (p + k) (by omega) (by omega)
      · intro hh k h1 h2
        have := hh (k - p) (by omega)
        rw [show p + (k - p) = k by omega] at this
        exact this
    cases b with
    | false =>
      have ev : V (j + 1) = V j := by
        show (if al A G p (y + 1 - p) = true then _ else s) = if al A G p (y + 1 - p) = true then _ else s
        by_cases q : al A G p (y + 1 - p) = true
        · have : ¬ x + j < wdt A G p (y + 1 - p) := fun hq => by
            have := x3.mpr ⟨q, hq⟩
            cases this
          rw [Nat.min_eq_right (by omega), Nat.min_eq_right (by omega)]
        · rw [if_neg q, if_neg q]
      refine ⟨_, h2, ?_, rfl, x2⟩
      rw [ev]
      simp only [fX13_blockAnswer_b69, fX13_blockAnswer_j135, hc, if_false, dnB_eval, v_289 ck.1, x1, Bool.false_eq_true, dnP, nI_1, ej]
    | true =>
      obtain ⟨q, hq⟩ := x3.mp rfl
      have e27 := x4 rfl
      rw [show x + j + 1 - x = j + 1 by omega, bl_pre] at e27
      have v0 : V j = bz A G p x y s j := by
        show (if al A G p (y + 1 - p) = true then _ else s) = _
        rw [if_pos q, Nat.min_eq_left (by omega)]
      have ev : V (j + 1) = upB (V j) (cod p x y (x + j)) (preS A G p x (y + 1 - p) (j + 1)) := by
        rw [v0]
        show (if al A G p (y + 1 - p) = true then _ else s) = _
        rw [if_pos q, Nat.min_eq_left (by omega)]
        rfl
      refine ⟨_, h2, ?_, rfl, x2⟩
      rw [ev]
      generalize preS A G p x (y + 1 - p) (j + 1) = T at e27
      generalize V j = u
      have ec : (1000000 * nI p + 10000 * nI x + 100 * nI y + nI (x + j) : Int32) = cod p x y (x + j) := rfl
      unfold upB
      by_cases q9 : u.1 = -9
      · rw [if_pos q9]
        simp only [fX13_blockAnswer_b69, fX13_blockAnswer_j107, fX13_blockAnswer_j135, hc, if_false, dnB_eval, v_289 ck.1, x1, if_true, q9, g_289_27 x2.1, e27, ec, dnP, nI_1, ej]
      · rw [if_neg q9]
        by_cases qv : T ≤ u.2
        · have z : lg_cmp T u.2 ≤ 0 := by rw [lg_cmp_le]; exact qv
          rw [if_pos qv]
          simp only [fX13_blockAnswer_b69, fX13_blockAnswer_j135, hc, if_false, dnB_eval, v_289 ck.1, x1, if_true, q9, g_289_27 x2.1, e27, z, dnP, nI_1, ej]
        · have z : ¬ lg_cmp T u.2 ≤ 0 := by rw [lg_cmp_le]; exact qv
          rw [if_neg qv]
          simp only [fX13_blockAnswer_b69, fX13_blockAnswer_j107, fX13_blockAnswer_j135, hc, if_false, dnB_eval, v_289 ck.1, x1, if_true, q9, g_289_27 x2.1, e27, z, ec, dnP, nI_1, ej]
  · rintro u k ⟨rfl, ck⟩
    have hc : (12 : Int32) ≤ nI (x + (12 - x)) := (nI_leI (a := 12) (by omega) (by omega)).mpr (by omega)
    exact ⟨V (12 - x), k, by simp only [fX13_blockAnswer_b69, hc, if_true, dnP], rfl, ck⟩
  · have : V 0 = s := by
      show (if al A G p (y + 1 - p) = true then bz A G p x y s (min 0 _) else s) = s
      rw [Nat.zero_min]
      split <;> rfl
    rw [this]
    rfl
theorem all_r {B : Nat} {A : Ab} (w : Wf B [] A) {G m : Nat} (hG : G < 4) (hm : m ≤ 6) (e1 : A.1 G = nI m) {q0 h : dnH} (c : RS q0 [] h A) : ∃ h2, dnIt 1000 (fX13_blockAnswer_b29 (some 289) (nI G)) (-9, 0, 0) h = some (bP A G m m, h2) ∧ RS q0 [] h2 A := by
  have pl : ∀ k, RS q0 [] k A → dnAI (some 291) 100 (nI G) k = some (nI m, k) := fun k ck => by rw [plr_A ck hG, e1]
  have yl : ∀ p x, p < m → x < 12 → ∀ (s : Int32 × Int64) k, RS q0 [] k A → ∃ h2, dnIt 1000 (fX13_blockAnswer_b54 (some 289) (nI G) (nI p) (nI x)) (s.1, s.2, nI p) k = some (bY A G p x s (m - p), h2) ∧ RS q0 [] h2 A := fun p x hp hx s k ck => by
    have KK := it_inv (f := fX13_blockAnswer_b54 (some 289) (nI G) (nI p) (nI x)) (Q := fun q k => q = bY A G p x s (m - p) ∧ RS q0 [] k A) (fun t u k => u = ((bY A G p x s t).1, (bY A G p x s t).2, nI (p + t)) ∧ RS q0 [] k A) (m - p) 1000 0 (by omega) (by omega) ?_ ?_ (s.1, s.2, nI p) k ⟨rfl, ck⟩
    · obtain ⟨q, h2, b1, rfl, c2⟩ := KK
      exact ⟨h2, b1, c2⟩
    · rintro t u k ht ⟨rfl, ck⟩
      left
      have hc : ¬ (nI m ≤ nI (p + t)) := fun hc => by have := (nI_leI (a := m) (b := p + t) (by omega) (by omega)).mp hc; omega
      have ej : nI (p + t + 1) = nI (p + (t + 1)) := rfl
      obtain ⟨h2, x1, x2⟩ := blockZ_r (s := bY A G p x s t) w hG hm e1 (show p ≤ p + t by omega) (show p + t < m by omega) hx ck
      rw [show p + t + 1 - p = t + 1 by omega] at x1
      have x1 : dnIt 1000 (fX13_blockAnswer_b69 (some 289) (nI G) (nI p) (nI x) (nI (p + t))) ((bY A G p x s t).1, (bY A G p x s t).2, nI x) k = some (bY A G p x s (t + 1), h2) := x1
      exact ⟨_, h2, by simp only [fX13_blockAnswer_b54, dnB_eval, g_289_4 ck.1, pl k ck, hc, if_false, x1, dnP, nI_1, ej], rfl, x2⟩
    · rintro u k ⟨rfl, ck⟩
      have hc : nI m ≤ nI (p + (m - p)) := (nI_leI (by omega) (by omega)).mpr (by omega)
      exact ⟨bY A G p x s (m - p), k, by simp only [fX13_blockAnswer_b54, dnB_eval, g_289_4 ck.1, pl k ck, hc, if_true, dnP], rfl, ck⟩
  have xl : ∀ p, p < m → ∀ (s : Int32 × Int64) k, RS q0 [] k A → ∃ h2, dnIt 1000 (fX13_blockAnswer_b43 (some 289) (nI G) (nI p)) (s.1, s.2, 0) k = some (bX A G m p s 12, h2) ∧ RS q0 [] h2 A := fun p hp s k ck => by
    have KK := it_inv (f := fX13_blockAnswer_b43 (some 289) (nI G) (nI p)) (Q := fun q k => q = bX A G m p s 12 ∧ RS q0 [] k A) (fun x u k => u = ((bX A G m p s x).1, (bX A G m p s x).2, nI x) ∧ RS q0 [] k A) 12 1000 0 (by omega) (by omega) ?_ ?_ (s.1, s.2, 0) k ⟨rfl, ck⟩
    · obtain ⟨q, h2, b1, rfl, c2⟩ := KK
      exact ⟨h2, b1, c2⟩
    · rintro x u k hx ⟨rfl, ck⟩
      left
      have hc : ¬ ((12 : Int32) ≤ nI x) := fun hc => by have := (nI_leI (a := 12) (b := x) (by omega) (by omega)).mp hc; omega
      obtain ⟨h2, x1, x2⟩ := yl p x hp hx (bX A G m p s x) k ck
      have x1 : dnIt 1000 (fX13_blockAnswer_b54 (some 289) (nI G) (nI p) (nI x)) ((bX A G m p s x).1, (bX A G m p s x).2, nI p) k = some (bX A G m p s (x + 1), h2) := x1
      exact ⟨_, h2, by simp only [fX13_blockAnswer_b43, hc, if_false, dnB_eval, x1, dnP, nI_1], rfl, x2⟩
    · rintro u k ⟨rfl, ck⟩
      exact ⟨bX A G m p s 12, k, by simp only [fX13_blockAnswer_b43, show (12 : Int32) ≤ nI 12 by decide, if_true, dnP], rfl, ck⟩
  have KK := it_inv (f := fX13_blockAnswer_b29 (some 289) (nI G)) (Q := fun q k => q = bP A G m m ∧ RS q0 [] k A) (fun p u k => u = ((bP A G m p).1, (bP A G m p).2, nI p) ∧ RS q0 [] k A) m 1000 0 (by omega) (by omega) ?_ ?_ (-9, 0, 0) h ⟨rfl, c⟩
  · obtain ⟨q, h2, b1, rfl, c2⟩ := KK
    exact ⟨h2, b1, c2⟩
  · rintro p u k hp ⟨rfl, ck⟩
    left
    have hc : ¬ (nI m ≤ nI p) := fun hc => by have := (nI_leI (a := m) (b := p) (by omega) (by omega)).mp hc; omega
    obtain ⟨h2, x1, x2⟩ := xl p hp (bP A G m p) k ck
    have x1 : dnIt 1000 (fX13_blockAnswer_b43 (some 289) (nI G) (nI p)) ((bP A G m p).1, (bP A G m p).2, 0) k = some (bP A G m (p + 1), h2) := x1
    exact ⟨_, h2, by simp only [fX13_blockAnswer_b29, dnB_eval, g_289_4 ck.1, pl k ck, hc, if_false, x1, dnP, nI_1], rfl, x2⟩
  · rintro u k ⟨rfl, ck⟩
    exact ⟨bP A G m m, k, by simp only [fX13_blockAnswer_b29, dnB_eval, g_289_4 ck.1, pl k ck, Int32.le_refl, if_true, dnP], rfl, ck⟩
theorem step_block {B : Nat} (g : Int32) : Step B B (fX7_bestBlock (some 270) g) (fX13_blockAnswer (some 289) g) := by
  intro A w
  cases hg : inB g 0 3
  · exact step_ro (-1) w (fun h0 h c => by simp only [fX7_bestBlock, fX9_gridFault, g_270_0 c.1, sv (st1 c.1), hg, show ¬ (0 : Int32) ≤ -1 by decide, dnB_eval, c_isGrid, c_isKind, c_isSort, c_isPlain, r_isGrid, r_isKind, r_isSort, r_isPlain, r_in, dnP, Bool.false_eq_true, if_false, if_true]) (fun q0 q r => by simp only [fX13_blockAnswer, hg, dnB_eval, c_isGrid, c_isKind, c_isSort, c_isPlain, r_isGrid, r_isKind, r_isSort, r_isPlain, r_in, dnP, Bool.false_eq_true, if_false, if_true])
  obtain ⟨G, hG, rfl⟩ := inB_of (n := 3) (by decide) hg
  have hG : G < 4 := by omega
  by_cases hneg : A.1 G < 0
  · have hn2 : ¬ 0 ≤ A.1 G := Int32.not_le.mpr hneg
    exact step_ro (-2) w (fun h0 h c => by simp only [fX7_bestBlock, g_270_0 c.1, sv (st1 c.1), gridFault_c c.1 hG, c.pl hG, hneg, show ¬ (0 : Int32) ≤ -2 by decide, dnB_eval, c_isGrid, c_isKind, c_isSort, c_isPlain, r_isGrid, r_isKind, r_isSort, r_isPlain, r_in, dnP, Bool.false_eq_true, if_false, if_true]) (fun q0 k r => by simp only [fX13_blockAnswer, hg, g_289_4 r.1, plr_A r hG, hn2, dnB_eval, c_isGrid, c_isKind, c_isSort, c_isPlain, r_isGrid, r_isKind, r_isSort, r_isPlain, r_in, dnP, Bool.false_eq_true, if_false, if_true])
  have hn2 : 0 ≤ A.1 G := Int32.not_lt.mp hneg
  obtain ⟨m, hm, e1⟩ := grid_open w hG hneg
  have z0 : (0 : Int32) ≤ 0 := by decide
  have cb : ∀ h0 h, CS h0 sp0 [] h A → ∃ h1 h2, dnPI (some 270) 6 6 (-9) h = some ((), h1) ∧ CS h0 sp0 [] h1 A ∧ dnIt 1000 (fX7_bestBlock_b23 (some 270) (nI G)) 0 h1 = some ((), h2) ∧ CS h0 sp0 [] h2 A ∧ Bs h2 (bP A G m m) := fun h0 h c => by
    have c1 : CS h0 sp0 [] (dnSI h 270 6 (-9)) A := fr270 c (a := 270) (by decide) (by decide) (eqc_SI (fun hc => hc rfl))
    obtain ⟨h2, b1, b2, b3⟩ := all_c w hG hm e1 c1 ⟨by simp [dnSI, dnSL, dnSD, dnUp], fun hq => absurd rfl hq⟩
    exact ⟨_, h2, p_270_6 c.1 _, c1, b1, b2, b3⟩
  by_cases q9 : (bP A G m m).1 = -9
  · refine ⟨-9, A, w, fun h0 h c => ?_, fun q0 k r => ?_⟩
    · obtain ⟨h1, h2, b0, c1, b1, b2, b3⟩ := cb h0 h c
      have s6 : h2.2.1 270 6 = -9 := b3.1.trans q9
      exact ⟨h2, by simp only [fX7_bestBlock, fX7_bestBlock_j86, g_270_0 c.1, sv (st1 c.1), gridFault_c c.1 hG, c.pl hG, hneg, z0, b0, b1, g_270_6 b2.1, s6, dnB_eval, c_isGrid, c_isKind, c_isSort, c_isPlain, r_isGrid, r_isKind, r_isSort, r_isPlain, r_in, dnP, Bool.false_eq_true, if_false, if_true], b2⟩
    · obtain ⟨h2, b1, b2⟩ := all_r w hG hm e1 r
      exact ⟨h2, [], by simp only [fX13_blockAnswer, hg, g_289_4 r.1, plr_A r hG, hn2, b1, q9, not_true_eq_false, dnB_eval, c_isGrid, c_isKind, c_isSort, c_isPlain, r_isGrid, r_isKind, r_isSort, r_isPlain, r_in, dnP, Bool.false_eq_true, if_false, if_true], b2⟩
  · refine ⟨(bP A G m m).1, setN A ((bP A G m m).2, A.2.2.2.2), w.note, fun h0 h c => ?_, fun q0 k r => ?_⟩
    · obtain ⟨h1, h2, b0, c1, b1, b2, b3⟩ := cb h0 h c
      have c3 := b2.told (bP A G m m).2
      have s6 : (dnSL h2 258 0 (bP A G m m).2).2.1 270 6 = (bP A G m m).1 := b3.1
      exact ⟨_, by simp only [fX7_bestBlock, fX7_bestBlock_j86, g_270_0 c.1, sv (st1 c.1), gridFault_c c.1 hG, c.pl hG, hneg, z0, b0, b1, g_270_6 b2.1, b3.1, q9, g_270_1 b2.1, g_270_5 b2.1, b3.2 q9, p_258_0 b2.1, g_270_6 c3.1, s6, dnB_eval, c_isGrid, c_isKind, c_isSort, c_isPlain, r_isGrid, r_isKind, r_isSort, r_isPlain, r_in, dnP, Bool.false_eq_true, if_false, if_true], c3⟩
    · obtain ⟨h2, b1, b2⟩ := all_r w hG hm e1 r
      obtain ⟨t1, t2⟩ := tells_A b2 (bP A G m m).2 (bP A G m m).1
      exact ⟨_, [], by simp only [fX13_blockAnswer, hg, g_289_4 r.1, plr_A r hG, hn2, b1, q9, not_false_eq_true, v_289 b2.1, t1, dnB_eval, c_isGrid, c_isKind, c_isSort, c_isPlain, r_isGrid, r_isKind, r_isSort, r_isPlain, r_in, dnP, Bool.false_eq_true, if_false, if_true], t2⟩

theorem call_block {B : Nat} (g : Int32) : Call B B (fX12_block (some 0) g) (fX13_block (some 289) g) :=
  callA (Nat.le_refl _) (fun h v h1 s1 s2 e => by simp only [fX12_block, dnB_eval, g_0_7 s1, v_270 s1, e, v_0 s2, tally_c s2, dnP]) (fun h v h1 s1 s2 e => by simp only [fX13_block, dnB_eval, v_289 s1, e, v_289 s2, said_r s2, dnP]) (step_block g)
