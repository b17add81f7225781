/-! ABS 56: patches -/
def ptS (F : Nat → Nat → Bool) (o : Nat → Bool) : Nat → (Nat → Bool) × Nat × Nat
  | 0 => (fun _ => false, 0, 0)
  | c + 1 => if (o c && !((ptS F o c).1 c)) = true then (fun x => (ptS F o c).1 x || F c x, (ptS F o c).2.1 + 1, max (ptS F o c).2.2 (cN (F c) 72)) else ptS F o c
theorem pt_y {F : Nat → Nat → Bool} {o : Nat → Bool} {c : Nat} (h1 : o c = true) (h2 : (ptS F o c).1 c = false) : ptS F o (c + 1) = (fun x => (ptS F o c).1 x || F c x, (ptS F o c).2.1 + 1, max (ptS F o c).2.2 (cN (F c) 72)) := by
  show (if (o c && !((ptS F o c).1 c)) = true then _ else _) = _
  rw [h1, h2]
  rfl
theorem pt_n {F : Nat → Nat → Bool} {o : Nat → Bool} {c : Nat} (h : o c = false ∨ (ptS F o c).1 c = true) : ptS F o (c + 1) = ptS F o c := by
  show (if (o c && !((ptS F o c).1 c)) = true then _ else _) = _
  rcases h with h | h
  · rw [h]; rfl
  · rw [h, Bool.not_true, Bool.and_false]; rfl
theorem pt_inv {N : Nat → Nat → Bool} {F : Nat → Nat → Bool} {o : Nat → Bool} (hF : ∀ s c, F s c = true ↔ Cl N s c) : ∀ c, clo N (ptS F o c).1 ∧ (ptS F o c).2.1 ≤ c ∧ (ptS F o c).2.2 ≤ 72 := by
  intro c
  induction c with
  | zero => exact ⟨clo_0, Nat.le_refl _, Nat.zero_le _⟩
  | succ c ih =>
    obtain ⟨i1, i2, i3⟩ := ih
    cases h1 : o c with
    | false => rw [pt_n (.inl h1)]; exact ⟨i1, by omega, i3⟩
    | true =>
      cases h2 : (ptS F o c).1 c with
      | true => rw [pt_n (.inr h2)]; exact ⟨i1, by omega, i3⟩
      | false =>
        rw [pt_y h1 h2]
        refine ⟨fun a b ha hab => ?_, by show (ptS F o c).2.1 + 1 ≤ c + 1; omega, Nat.max_le.mpr ⟨i3, cN_le _ _⟩⟩
        rcases Bool.or_eq_true_iff.mp ha with ha | ha
        · show ((ptS F o c).1 b || F c b) = true
          rw [i1 a b ha hab]; rfl
        · show ((ptS F o c).1 b || F c b) = true
          rw [(hF c b).mpr (cl_step ((hF c a).mp ha) hab), Bool.or_true]
theorem pt_tail {F : Nat → Nat → Bool} {o : Nat → Bool} {a : Nat} : ∀ d, (∀ k, k < d → o (a + k) = false) → ptS F o (a + d) = ptS F o a := by
  intro d
  induction d with
  | zero => intro _; rfl
  | succ d ih =>
    intro h
    rw [show a + (d + 1) = (a + d) + 1 by omega, pt_n (.inl (h d (by omega))), ih (fun k hk => h k (by omega))]
def Sm (h : dnH) (M : Nat → Bool) : Prop := ∀ c, c < 72 → h.2.1 280 c = if M c = true then 1 else 0
theorem rows_c {B : Nat} {A : Ab} (w : Wf B [] A) {G m y : Nat} {F : Nat → Nat → Bool} (hF : ∀ s c, F s c = true ↔ Cl (nbr (sg A G m)) s c) (hG : G < 4) (hm : m ≤ 6) (e1 : A.1 G = nI m) (hy : y < m) {h0 h : dnH} (c : CS h0 sp0 [] h A) (k : Sm h (ptS F (fun x => (ceO (sg A G m) x).isSome) (12 * y)).1) : ∃ v h2, fX9_cellsAt (some 1) (nI G) (nI y) h = some (v, h) ∧ dnIt 1000 (fX4_countRegions_b60 (some 274) (nI G) (nI y) v) (nI (ptS F (fun x => (ceO (sg A G m) x).isSome) (12 * y)).2.1, nI (ptS F (fun x => (ceO (sg A G m) x).isSome) (12 * y)).2.2, 0) h = some ((nI (ptS F (fun x => (ceO (sg A G m) x).isSome) (12 * (y + 1))).2.1, nI (ptS F (fun x => (ceO (sg A G m) x).isSome) (12 * (y + 1))).2.2), h2) ∧ CS h0 sp0 [] h2 A ∧ Sm h2 (ptS F (fun x => (ceO (sg A G m) x).isSome) (12 * (y + 1))).1 := by
  obtain ⟨o, ho⟩ : ∃ o : Nat → Bool, o = fun x => (ceO (sg A G m) x).isSome := ⟨_, rfl⟩
  rw [← ho] at k ⊢
  rcases sg_A w hG hm e1 (show y < 12 by omega) with ⟨e, kc, -⟩ | ⟨r, hr, e, hl, ow, -, kc, -⟩
  · have t := pt_tail (F := F) (o := o) (a := 12 * y) 12 (fun z hz => by
      rw [ho]
      show (ceO (sg A G m) (12 * y + z)).isSome = false
      rw [ce_n (by rw [show (12 * y + z) / 12 = y by omega]; exact e)]
      rfl)
    rw [show 12 * (y + 1) = 12 * y + 12 by omega, t]
    refine ⟨0, h, by simp only [fX9_cellsAt, dnB_eval, sv (st1 c.1), kc h0 _ _ h c, Option.elim, dnP], ?_, c, k⟩
    have := dnIt_run (f := fX4_countRegions_b60 (some 274) (nI G) (nI y) 0) (q := (nI (ptS F o (12 * y)).2.1, nI (ptS F o (12 * y)).2.2)) (hq := h) 0 1000 (fun _ => ((nI (ptS F o (12 * y)).2.1, nI (ptS F o (12 * y)).2.2, 0), h)) (by decide) (fun i hi => by omega) (by simp only [fX4_countRegions_b60, Int32.le_refl, if_true, dnP])
    exact this
  · have o12 := ow.2.1
    have oy : ∀ z, z < (A.2.2.1 r).2.1 → o (12 * y + z) = true := fun z hz => by
      rw [ho]
      show (ceO (sg A G m) (12 * y + z)).isSome = true
      rw [ce_y (r := r) (by rw [show (12 * y + z) / 12 = y by omega]; exact e), if_pos (by omega)]
      rfl
    have t := pt_tail (F := F) (o := o) (a := 12 * y + (A.2.2.1 r).2.1) (12 - (A.2.2.1 r).2.1) (fun z hz => by
      rw [ho]
      show (ceO (sg A G m) (12 * y + (A.2.2.1 r).2.1 + z)).isSome = false
      rw [ce_y (r := r) (by rw [show (12 * y + (A.2.2.1 r).2.1 + z) / 12 = y by omega]; exact e), if_neg (by omega)]
      rfl)
    rw [show 12 * y + (A.2.2.1 r).2.1 + (12 - (A.2.2.1 r).2.1) = 12 * (y + 1) by omega] at t
    rw [t]
    have KK := it_inv (f := fX4_countRegions_b60 (some 274) (nI G) (nI y) (nI (A.2.2.1 r).2.1)) (Q := fun q k => q = (nI (ptS F o (12 * y + (A.2.2.1 r).2.1)).2.1, nI (ptS F o (12 * y + (A.2.2.1 r).2.1)).2.2) ∧ CS h0 sp0 [] k A ∧ Sm k (ptS F o (12 * y + (A.2.2.1 r).2.1)).1) (fun z u k => u = (nI (ptS F o (12 * y + z)).2.1, nI (ptS F o (12 * y + z)).2.2, nI z) ∧ CS h0 sp0 [] k A ∧ Sm k (ptS F o (12 * y + z)).1) (A.2.2.1 r).2.1 1000 0 (by omega) (by omega) ?_ ?_ (nI (ptS F o (12 * y)).2.1, nI (ptS F o (12 * y)).2.2, nI 0) h ⟨rfl, c, k⟩
    · obtain ⟨q, h2, b1, rfl, c2, k2⟩ := KK
      exact ⟨nI (A.2.2.1 r).2.1, h2, by simp only [fX9_cellsAt, dnB_eval, sv (st1 c.1), kc h0 _ _ h c, Option.elim, rg_i (row1 c.1 hr), (c.row hr (hl [])).2.1, dnP], b1, c2, k2⟩
    · rintro z u k hz ⟨rfl, ck, mk⟩
      left
      have hc : ¬ (nI (A.2.2.1 r).2.1 ≤ nI z) := fun hc => by have := (nI_leI (a := (A.2.2.1 r).2.1) (b := z) (by omega) (by omega)).mp hc; omega
      have ex : nI y * 12 + nI z = nI (12 * y + z) := by rw [← ml12 (12 * y + z), show (12 * y + z) / 12 = y by omega, show (12 * y + z) % 12 = z by omega]
      have rx : dnAI (some 280) 100 (nI (12 * y + z)) k = some (if (ptS F o (12 * y + z)).1 (12 * y + z) = true then 1 else 0, k) := by
        rw [a_280 ck.1, dnIn_nI (show 12 * y + z < 72 by omega) (by decide), nI_clamp (by omega), mk _ (by omega)]
        rfl
      obtain ⟨i1, i2, i3⟩ := pt_inv (N := nbr (sg A G m)) (o := o) hF (12 * y + z)
      cases hM : (ptS F o (12 * y + z)).1 (12 * y + z) with
      | true =>
        rw [hM, if_pos rfl] at rx
        have z1 : ¬ ((1 : Int32) = 0) := by decide
        have ep := pt_n (F := F) (o := o) (.inr hM)
        refine ⟨(nI (ptS F o (12 * y + z)).2.1, nI (ptS F o (12 * y + z)).2.2, nI (z + 1)), k, ?_, ?_, ck, ?_⟩
        · simp only [fX4_countRegions_b60, fX4_countRegions_j106, hc, if_false, dnB_eval, g_274_5 ck.1, ex, rx, z1, not_false_eq_true, if_true, dnP, nI_1]
        · rw [show 12 * y + (z + 1) = 12 * y + z + 1 by omega, ep]
        · rw [show 12 * y + (z + 1) = 12 * y + z + 1 by omega, ep]
          exact mk
      | false =>
        rw [hM, if_neg (by decide)] at rx
        have oz := oy z hz
        have oz2 : (ceO (sg A G m) (12 * y + z)).isSome = true := by rw [ho] at oz; exact oz
        have ep := pt_y (F := F) (o := o) oz hM
        obtain ⟨h2, S, n, L, b1, c2, k2, l2, hS⟩ := spread_c w hG hm e1 i1 hM oz2 ck mk
        rw [show (12 * y + z) / 12 = y by omega, show (12 * y + z) % 12 = z by omega] at b1
        have eS := eqF (hF (12 * y + z)) hS
        have n4 := k2.2.2
        have nc := lst_len l2
        rw [eS] at nc k2
        have n72 := cN_le (F (12 * y + z)) 72
        refine ⟨(nI ((ptS F o (12 * y + z)).2.1 + 1), nI (max (ptS F o (12 * y + z)).2.2 n), nI (z + 1)), h2, ?_, ?_, c2, ?_⟩
        · simp only [fX4_countRegions_b60, fX4_countRegions_j106, hc, if_false, dnB_eval, g_274_5 ck.1, ex, rx, not_true_eq_false, v_274 ck.1, b1, g_274_4 c2.1, n4, max_I (show (ptS F o (12 * y + z)).2.2 < 2 ^ 31 by omega) (show n < 2 ^ 31 by omega), dnP, nI_1]
        · rw [show 12 * y + (z + 1) = 12 * y + z + 1 by omega, ep, nc]
        · rw [show 12 * y + (z + 1) = 12 * y + z + 1 by omega, ep]
          exact k2.1
    · rintro u k ⟨rfl, ck, mk⟩
      exact ⟨_, k, by simp only [fX4_countRegions_b60, Int32.le_refl, if_true, dnP], rfl, ck, mk⟩
theorem hasCell_o {B : Nat} {A : Ab} (w : Wf B [] A) {G m x : Nat} (hG : G < 4) (hm : m ≤ 6) (e1 : A.1 G = nI m) (hx : x < 72) {q0 k : dnH} {Y : List Nat} (c : RS q0 Y k A) : fX13_hasCell (some 289) (nI G) (nI (x / 12)) (nI (x % 12)) k = some ((ceO (sg A G m) x).isSome, k) := by
  rcases sg_A w hG hm e1 (show x / 12 < 12 by omega) with ⟨e, -, kr⟩ | ⟨r, hr, e, l, o, -, -, kr⟩
  · rw [kr q0 Y k c (x % 12) (by omega), ce_n e]
    rfl
  · rw [(kr q0 Y k c).2 (x % 12) (by omega), ce_y e]
    by_cases q : x % 12 < (A.2.2.1 r).2.1
    · rw [decide_eq_true q, if_pos q]; rfl
    · rw [decide_eq_false q, if_neg q]; rfl
theorem step_patches {B : Nat} (g : Int32) : Step B B (fX4_countRegions (some 274) g) (fX13_patchesAnswer (some 289) g) := by
  intro A w
  cases hg : inB g 0 3
  · exact step_ro (-1) w (fun h0 h c => by simp only [fX4_countRegions, fX9_gridFault, g_274_0 c.1, sv (st1 c.1), hg, show ¬ (0 : Int32) ≤ -1 by decide, dnB_eval, c_isGrid, c_isKind, c_isSort, c_isPlain, r_isGrid, r_isKind, r_isSort, r_isPlain, r_in, dnP, Bool.false_eq_true, if_false, if_true]) (fun q0 k r => by simp only [fX13_patchesAnswer, hg, dnB_eval, c_isGrid, c_isKind, c_isSort, c_isPlain, r_isGrid, r_isKind, r_isSort, r_isPlain, r_in, dnP, Bool.false_eq_true, if_false, if_true])
  obtain ⟨G, hG, rfl⟩ := inB_of (n := 3) (by decide) hg
  have hG : G < 4 := by omega
  by_cases hn : A.1 G < 0
  · have hn2 : ¬ 0 ≤ A.1 G := Int32.not_le.mpr hn
    exact step_ro (-2) w (fun h0 h c => by simp only [fX4_countRegions, g_274_0 c.1, sv (st1 c.1), gridFault_c c.1 hG, c.pl hG, hn, show ¬ (0 : Int32) ≤ -2 by decide, dnB_eval, c_isGrid, c_isKind, c_isSort, c_isPlain, r_isGrid, r_isKind, r_isSort, r_isPlain, r_in, dnP, Bool.false_eq_true, if_false, if_true]) (fun q0 k r => by simp only [fX13_patchesAnswer, hg, g_289_4 r.1, plr_A r hG, hn2, dnB_eval, c_isGrid, c_isKind, c_isSort, c_isPlain, r_isGrid, r_isKind, r_isSort, r_isPlain, r_in, dnP, Bool.false_eq_true, if_false, if_true])
  have hn2 : 0 ≤ A.1 G := Int32.not_lt.mp hn
  obtain ⟨m, hm, e1⟩ := grid_open w hG hn
  obtain ⟨F, hF⟩ : ∃ F : Nat → Nat → Bool, ∀ s c, F s c = true ↔ Cl (nbr (sg A G m)) s c := by
    classical
    exact ⟨fun s c => decide (Cl (nbr (sg A G m)) s c), fun s c => decide_eq_true_iff⟩
  obtain ⟨o, ho⟩ : ∃ o : Nat → Bool, o = fun x => (ceO (sg A G m) x).isSome := ⟨_, rfl⟩
  obtain ⟨I1, I2, I3⟩ := pt_inv (N := nbr (sg A G m)) (o := o) hF (12 * m)
  refine ⟨nI (ptS F o (12 * m)).2.1, setN A ((nI (ptS F o (12 * m)).2.2).toInt64, A.2.2.2.2), w.note, fun h0 h c => ?_, fun q0 k r => ?_⟩
  · obtain ⟨a1, c1, a3⟩ := fill280 c
    have KK := it_inv (f := fX4_countRegions_b31 (some 274) (nI G)) (Q := fun q k => q = (nI (ptS F o (12 * m)).2.1, nI (ptS F o (12 * m)).2.2) ∧ CS h0 sp0 [] k A) (fun y u k => u = (nI (ptS F o (12 * y)).2.1, nI (ptS F o (12 * y)).2.2, nI y) ∧ CS h0 sp0 [] k A ∧ Sm k (ptS F o (12 * y)).1) m 1000 0 (by omega) (by omega) ?_ ?_ (nI 0, nI 0, nI 0) (flI h 280 72 0) ⟨rfl, c1, a3⟩
    · obtain ⟨q, h2, d1, rfl, c2⟩ := KK
      have d1 : dnIt 1000 (fX4_countRegions_b31 (some 274) (nI G)) (0, 0, 0) (flI h 280 72 0) = some ((nI (ptS F o (12 * m)).2.1, nI (ptS F o (12 * m)).2.2), h2) := d1
      refine ⟨_, ?_, c2.told _⟩
      simp only [fX4_countRegions, g_274_0 c.1, sv (st1 c.1), gridFault_c c.1 hG, c.pl hG, hn, Int32.le_refl, g_274_5 c.1, a1, d1, g_274_1 c2.1, p_258_0 c2.1, dnB_eval, c_isGrid, c_isKind, c_isSort, c_isPlain, r_isGrid, r_isKind, r_isSort, r_isPlain, r_in, dnP, Bool.false_eq_true, if_false, if_true]
    · rintro y u k hy ⟨rfl, ck, mk⟩
      left
      have hc : ¬ (nI m ≤ nI y) := fun hc => by have := (nI_leI (a := m) (b := y) (by omega) (by omega)).mp hc; omega
      have pl : dnAI (some (1 + 1)) 100 (nI G) k = some (nI m, k) := by rw [plc_A ck hG, e1]
      have mk2 := mk
      rw [ho] at mk2
      obtain ⟨v, h2, x1, x2, x3, x4⟩ := rows_c w hF hG hm e1 hy ck mk2
      rw [← ho] at x2 x4
      refine ⟨(nI (ptS F o (12 * (y + 1))).2.1, nI (ptS F o (12 * (y + 1))).2.2, nI (y + 1)), h2, ?_, rfl, x3, x4⟩
      simp only [fX4_countRegions_b31, dnB_eval, g_274_0 ck.1, sg_0 (st1 ck.1), pl, hc, if_false, sv (st1 ck.1), x1, x2, dnP, nI_1]
    · rintro u k ⟨rfl, ck, mk⟩
      have pl : dnAI (some (1 + 1)) 100 (nI G) k = some (nI m, k) := by rw [plc_A ck hG, e1]
      exact ⟨_, k, by simp only [fX4_countRegions_b31, dnB_eval, g_274_0 ck.1, sg_0 (st1 ck.1), pl, Int32.le_refl, if_true, dnP], rfl, ck⟩
  · obtain ⟨h1, a1, c1, k1⟩ := noMarks_r r
    have e12 : (12 : Int32) * nI m = nI (12 * m) := by rw [show (12 : Int32) = nI 12 from rfl, nI_mul]
    have KK := it_inv (f := fX13_patchesAnswer_b32 (some 289) (nI G)) (Q := fun q k => q = (nI (ptS F o (12 * m)).2.1, nI (ptS F o (12 * m)).2.2) ∧ RS q0 [] k A) (fun x u k => u = (nI (ptS F o x).2.1, nI (ptS F o x).2.2, nI x) ∧ RS q0 [] k A ∧ ∃ ol, Mk k ol ∧ (∀ c, c < 72 → ol c ≤ (ptS F o x).2.1) ∧ ∀ c, c < 72 → ((ptS F o x).1 c = false ↔ ol c = 0)) (12 * m) 1000 0 (by omega) (by omega) ?_ ?_ (nI 0, nI 0, nI 0) h1 ⟨rfl, c1, _, k1, fun _ _ => Nat.le_refl _, fun _ _ => ⟨fun _ => rfl, fun _ => rfl⟩⟩
    · obtain ⟨q, h2, d1, rfl, c2⟩ := KK
      have d1 : dnIt 1000 (fX13_patchesAnswer_b32 (some 289) (nI G)) (0, 0, 0) h1 = some ((nI (ptS F o (12 * m)).2.1, nI (ptS F o (12 * m)).2.2), h2) := d1
      obtain ⟨t1, c3⟩ := tells_A c2 ((nI (ptS F o (12 * m)).2.2).toInt64) (nI (ptS F o (12 * m)).2.1)
      refine ⟨_, _, ?_, c3⟩
      simp only [fX13_patchesAnswer, hg, g_289_4 r.1, plr_A r hG, hn2, v_289 r.1, a1, d1, v_289 c2.1, t1, dnB_eval, c_isGrid, c_isKind, c_isSort, c_isPlain, r_isGrid, r_isKind, r_isSort, r_isPlain, r_in, dnP, Bool.false_eq_true, if_false, if_true]
    · rintro x u k hx ⟨rfl, ck, ol, mk, ml, mz⟩
      left
      have x72 : x < 72 := by omega
      have hc : ¬ (nI (12 * m) ≤ nI x) := fun hc => by have := (nI_leI (a := 12 * m) (b := x) (by omega) (by omega)).mp hc; omega
      have pl : dnAI (some 291) 100 (nI G) k = some (nI m, k) := by rw [plr_A ck hG, e1]
      have mx := mk_A ck mk x72
      obtain ⟨i1, i2, i3⟩ := pt_inv (N := nbr (sg A G m)) (o := o) hF x
      have olx := ml x x72
      have ez : (nI (ol x) = 0) ↔ ol x = 0 := nI_eq (b := 0) (by omega) (by decide)
      cases hM : (ptS F o x).1 x with
      | true =>
        have nz : ¬ nI (ol x) = 0 := fun hh => by have := (mz x x72).mpr (ez.mp hh); rw [hM] at this; cases this
        have ep := pt_n (F := F) (o := o) (.inr hM)
        refine ⟨(nI (ptS F o x).2.1, nI (ptS F o x).2.2, nI (x + 1)), k, ?_, by rw [ep], ck, ol, mk, by rw [ep]; exact ml, by rw [ep]; exact mz⟩
        simp only [fX13_patchesAnswer_b32, fX13_patchesAnswer_j100, dnB_eval, g_289_4 ck.1, pl, e12, hc, if_false, g_289_26 ck.1, mx, nz, not_false_eq_true, if_true, dnP, nI_1]
      | false =>
        have nz : nI (ol x) = 0 := ez.mpr ((mz x x72).mp hM)
        have hcl := hasCell_o w hG hm e1 x72 ck
        cases hO : o x with
        | false =>
          have hO2 : (ceO (sg A G m) x).isSome = false := by rw [ho] at hO; exact hO
          rw [hO2] at hcl
          have ep := pt_n (F := F) (o := o) (c := x) (.inl hO)
          refine ⟨(nI (ptS F o x).2.1, nI (ptS F o x).2.2, nI (x + 1)), k, ?_, by rw [ep], ck, ol, mk, by rw [ep]; exact ml, by rw [ep]; exact mz⟩
          simp only [fX13_patchesAnswer_b32, fX13_patchesAnswer_j100, dnB_eval, g_289_4 ck.1, pl, e12, hc, if_false, g_289_26 ck.1, mx, nz, not_true_eq_false, dnNz, n12, dv12 (show x < 100 by omega), md12 (show x < 100 by omega), v_289 ck.1, hcl, Bool.false_eq_true, dnP, nI_1]
        | true =>
          have hO2 : (ceO (sg A G m) x).isSome = true := by rw [ho] at hO; exact hO
          rw [hO2] at hcl
          have ep := pt_y (F := F) (o := o) hO hM
          obtain ⟨h2, T, y1, y2, y3, y4⟩ := grows_r (K := (ptS F o x).2.1 + 1) (ol := ol) (M := (ptS F o x).1) w hG hm e1 (by omega) (fun c hc => by have := ml c hc; omega) mz i1 hM hO2 ck mk
          have eT := eqF (hF x) y4
          rw [eT] at y1 y3
          have n72 := cN_le (F x) 72
          have ei : (nI (cN (F x) 72) ≤ nI (ptS F o x).2.2) ↔ cN (F x) 72 ≤ (ptS F o x).2.2 := nI_leI (by omega) (by omega)
          refine ⟨(nI ((ptS F o x).2.1 + 1), nI (max (ptS F o x).2.2 (cN (F x) 72)), nI (x + 1)), h2, ?_, by rw [ep], y2, _, y3, ?_, ?_⟩
          · simp only [fX13_patchesAnswer_b32, fX13_patchesAnswer_j100, fX13_patchesAnswer_j99, dnB_eval, g_289_4 ck.1, pl, e12, hc, if_false, g_289_26 ck.1, mx, nz, not_true_eq_false, dnNz, n12, dv12 (show x < 100 by omega), md12 (show x < 100 by omega), v_289 ck.1, hcl, if_true, y1, nI_1, ei, dnP]
            by_cases qq : cN (F x) 72 ≤ (ptS F o x).2.2
            · simp only [qq, if_true, Nat.max_eq_left, dnP]
            · simp only [qq, if_false, Nat.max_eq_right (show (ptS F o x).2.2 ≤ cN (F x) 72 by omega), dnP]
          · rw [ep]
            intro c hc
            have := ml c hc
            show lbl ol (F x) ((ptS F o x).2.1 + 1) c ≤ (ptS F o x).2.1 + 1
            unfold lbl
            split <;> omega
          · rw [ep]
            intro c hc
            have := mz c hc
            show ((ptS F o x).1 c || F x c) = false ↔ lbl ol (F x) ((ptS F o x).2.1 + 1) c = 0
            unfold lbl
            cases F x c with
            | true => simp
            | false => simpa using this
    · rintro u k ⟨rfl, ck, -⟩
      have pl : dnAI (some 291) 100 (nI G) k = some (nI m, k) := by rw [plr_A ck hG, e1]
      exact ⟨_, k, by simp only [fX13_patchesAnswer_b32, dnB_eval, g_289_4 ck.1, pl, e12, Int32.le_refl, if_true, dnP], rfl, ck⟩
theorem call_patches {B : Nat} (g : Int32) : Call B B (fX12_patches (some 0) g) (fX13_patches (some 289) g) :=
  callA (Nat.le_refl _) (fun h v h1 s1 s2 e => by simp only [fX12_patches, dnB_eval, g_0_8 s1, v_274 s1, e, v_0 s2, tally_c s2, dnP]) (fun h v h1 s1 s2 e => by simp only [fX13_patches, dnB_eval, v_289 s1, e, v_289 s2, said_r s2, dnP]) (step_patches g)
