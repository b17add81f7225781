/-! ABS 8: a grid anew; grid, drop -/
def gridOf (A : Ab) (g : Nat) (m : Int32) (T : Nat → Int32) : Ab := (fun j => if j = g then m else A.1 j, fun k => if k / 6 = g then T (k % 6) else A.2.1 k, A.2.2)
theorem gridOf_live {X : List Nat} {A : Ab} {g : Nat} {m : Int32} {T : Nat → Int32} (hT : ∀ p, p < 6 → ∀ n, n < 31 → T p = nI n → live X A n) : ∀ n, n < 31 → live X (gridOf A g m T) n → live X A n := by
  intro n hn h
  rcases h with h | ⟨k, hk, e⟩
  · exact .inl h
  · have e : (if k / 6 = g then T (k % 6) else A.2.1 k) = nI n := e
    split at e
    · exact hT _ (Nat.mod_lt _ (by decide)) n hn e
    · exact .inr ⟨k, hk, e⟩
theorem Wf.grid {B : Nat} {X : List Nat} {A : Ab} {g : Nat} {m : Int32} {T : Nat → Int32} (w : Wf B X A) (hm : plOk m) (hT : ∀ p, p < 6 → ∀ n, n < 31 → T p = nI n → live X A n) (hO : ∀ p, p < 6 → hOk (T p)) (hE : ∀ p, p < 6 → m ≤ nI p → T p = -14) : Wf B X (gridOf A g m T) := by
  refine w.mh (fun j hj => ?_) (fun k hk => ?_) (fun j hj p hp hle => ?_) (gridOf_live (g := g) (m := m) hT)
  · show plOk (if j = g then m else A.1 j)
    split
    · exact hm
    · exact w.1 j hj
  · show hOk (if k / 6 = g then T (k % 6) else A.2.1 k)
    split
    · exact hO _ (Nat.mod_lt _ (by decide))
    · exact w.2.1 k hk
  · have hle : (if j = g then m else A.1 j) ≤ nI p := hle
    show (if (6 * j + p) / 6 = g then T ((6 * j + p) % 6) else A.2.1 (6 * j + p)) = -14
    rw [show (6 * j + p) / 6 = j by omega, show (6 * j + p) % 6 = p by omega]
    by_cases c : j = g
    · rw [if_pos c] at hle ⊢
      exact hE p hp hle
    · rw [if_neg c] at hle ⊢
      exact w.2.2.1 j hj p hp hle
theorem CS.start {h0 h : dnH} {S : Nat → Int32} {X : List Nat} {A : Ab} {v : Int32} (c : CS h0 S X h A) : CS h0 S X (dnSI h 2 4 v) A := by
  have := c.mh (M2 := A.1) (H2 := A.2.1) (S2 := S) (Y := X) (h2 := dnSI h 2 4 v) (eqc_SI (fun hc => hc.1 rfl)) (fun g hg => by
    show dnUp h.2.1 2 4 v 2 g = _
    rw [dnUp_neK (by omega)]
    exact c.pl hg) (fun k hk => c.hd hk) (fun p hp => c.2.2.2.1 p hp) (fun n _ hl => hl)
  exact this
theorem startGrid_A {h0 h : dnH} {S : Nat → Int32} {X : List Nat} {A : Ab} {v : Int32} (c : CS h0 S X h A) : fX9_startGrid (some 1) v h = some ((), dnSI h 2 4 v) ∧ CS h0 S X (dnSI h 2 4 v) A ∧ (dnSI h 2 4 v).2.1 2 4 = v := by
  refine ⟨?_, c.start, ?_⟩
  · simp only [fX9_startGrid, dnB_eval, sg_0 (st1 c.1), st_1 (st1 c.1), show dnIn 4 5 = true by decide, show (4 : Int32).toNatClampNeg = 4 by decide, if_true, dnP]
  · simp [dnSI, dnUp]
theorem finishGrid_A {h0 h : dnH} {S : Nat → Int32} {X : List Nat} {A : Ab} {v : Int32} {g : Nat} (c : CS h0 S X h A) (hg : g < 4) (hv : h.2.1 2 4 = v) (hX : ∀ p, p < 6 → ∀ n, n < 31 → S p = nI n → live X A n) : ∃ h2, fX9_finishGrid (some 1) (nI g) h = some (v, h2) ∧ CS h0 sp0 X h2 (gridOf A g v S) := by
  have hh := c.1
  have g1 := dnIn_nI (show g < 5 by omega) (by decide)
  have g2 : (nI g).toNatClampNeg = g := nI_clamp (by omega)
  have s1 : Sh (dnSI h 2 g v) := hh
  have KK := it_inv (f := fX9_finishGrid_b14 (some 1) (nI g)) (Q := fun _ k => Eqc (fun x => x ≠ 3) (dnSI h 2 g v) k ∧ (∀ p, p < 6 → k.2.1 3 (6 * g + p) = S p ∧ k.2.1 3 (24 + p) = -14) ∧ ∀ j, j < 24 → j / 6 ≠ g → k.2.1 3 j = A.2.1 j) (fun i s k => s = nI i ∧ Eqc (fun x => x ≠ 3) (dnSI h 2 g v) k ∧ (∀ p, p < i → k.2.1 3 (6 * g + p) = S p ∧ k.2.1 3 (24 + p) = -14) ∧ (∀ p, p < 6 → i ≤ p → k.2.1 3 (24 + p) = S p) ∧ ∀ j, j < 24 → j / 6 ≠ g → k.2.1 3 j = A.2.1 j) 6 1000 0 (by decide) (by decide) ?_ ?_ (nI 0) (dnSI h 2 g v) ⟨rfl, Eqc.rf, fun p hp => by omega, fun p hp _ => c.2.2.2.1 p hp, fun j hj _ => c.hd hj⟩
  · obtain ⟨_, h2, e, f1, f2, f3⟩ := KK
    rw [nI_0] at e
    have s2 : Sh h2 := f1.sh s1
    have m2 : ∀ j, h2.2.1 2 j = if j = g then v else h.2.1 2 j := fun j => by
      rw [(f1.2.2 2 (by decide)).1]
      show dnUp h.2.1 2 g v 2 j = _
      unfold dnUp
      simp
    refine ⟨h2, ?_, ?_⟩
    · have hv' : h.2.1 (1 + 1) 4 = v := hv
      have e2 : h2.2.1 (1 + 1) g = v := by
        have := m2 g
        rw [if_pos rfl] at this
        exact this
      have e3 := st_1 (st1 hh) (nI g) v
      simp only [fX9_finishGrid, dnB_eval, sg_0 (st1 hh), sa_1 (st1 hh), show dnIn 4 5 = true by decide, show (4 : Int32).toNatClampNeg = 4 by decide, if_true, hv', e3, g1, g2, e, sg_0 (st1 s2), sa_1 (st1 s2), e2, dnP]
    · refine c.mh (M2 := fun j => if j = g then v else A.1 j) (H2 := fun k => if k / 6 = g then S (k % 6) else A.2.1 k) ((eqc_SI (fun hc => hc.1 rfl)).tr (f1.im (fun x hx => hx.2))) (fun j hj => ?_) (fun k hk => ?_) (fun p hp => (f2 p hp).2) (gridOf_live (g := g) (m := v) hX)
      · rw [m2, c.pl hj]
      · by_cases q : k / 6 = g
        · rw [if_pos q]
          have := (f2 (k % 6) (Nat.mod_lt _ (by decide))).1
          rw [show 6 * g + k % 6 = k by omega] at this
          exact this
        · rw [if_neg q]
          exact f3 k hk q
  · rintro i s k hi ⟨rfl, k1, k2, k3, k4⟩
    left
    have hk : Sh k := k1.sh s1
    have hc : ¬ ((6 : Int32) ≤ nI i) := fun hc => by have := (nI_leI (a := 6) (b := i) (by omega) (by omega)).mp hc; omega
    have a24 : (24 : Int32) + nI i = nI (24 + i) := by rw [show (24 : Int32) = nI 24 from rfl, nI_add]
    have i1 := dnIn_nI (show 24 + i < 30 by omega) (by decide)
    have i2 : (nI (24 + i)).toNatClampNeg = 24 + i := nI_clamp (by omega)
    have j1 := dnIn_nI (show 6 * g + i < 30 by omega) (by decide)
    have j2 : (nI (6 * g + i)).toNatClampNeg = 6 * g + i := nI_clamp (by omega)
    have hd : k.2.1 (1 + 2) (24 + i) = S i := k3 i hi (Nat.le_refl _)
    have t1 : Sh (dnSI k 3 (6 * g + i) (S i)) := hk
    have e3 := st_2 (st1 hk) (nI (6 * g + i)) (S i)
    have e4 := st_2 (st1 t1) (nI (24 + i)) (-14)
    refine ⟨nI (i + 1), dnSI (dnSI k 3 (6 * g + i) (S i)) 3 (24 + i) (-14), ?_, rfl, k1.tr ((eqc_SI (fun hc => hc rfl)).tr (eqc_SI (fun hc => hc rfl))), fun p hp => ?_, fun p hp hip => ?_, fun j hj hjg => ?_⟩
    · simp only [fX9_finishGrid_b14, hc, if_false, dnB_eval, sg_1 (st1 hk), a24, sa_2 (st1 hk), i1, i2, if_true, hd, at_c6, e3, j1, j2, sg_1 (st1 t1), e4, dnP, nI_1]
    · by_cases q : p = i
      · subst q
        refine ⟨?_, ?_⟩
        · have : ¬ 6 * g + p = 24 + p := by omega
          simp only [dnSI, dnUp, this, and_false, if_false, and_self, if_true]
        · simp [dnSI, dnUp]
      · obtain ⟨b1, b2⟩ := k2 p (by omega)
        have n1 : ¬ 6 * g + p = 24 + i := by omega
        have n2 : ¬ 24 + p = 6 * g + i := by omega
        refine ⟨?_, ?_⟩
        · simp [dnSI, dnUp, n1, q, b1]
        · simp [dnSI, dnUp, n2, q, b2]
    · have n1 : ¬ p = i := by omega
      have n2 : ¬ 24 + p = 6 * g + i := by omega
      have := k3 p hp (by omega)
      simp [dnSI, dnUp, n1, n2, this]
    · have n1 : ¬ j = 24 + i := by omega
      have n2 : ¬ j = 6 * g + i := by omega
      have := k4 j hj hjg
      simp [dnSI, dnUp, n1, n2, this]
  · rintro s k ⟨rfl, k1, k2, k3, k4⟩
    exact ⟨(), k, by simp only [fX9_finishGrid_b14, show (6 : Int32) ≤ nI 6 by decide, if_true, dnP], k1, k2, k4⟩
theorem anew_A {h0 h : dnH} {X : List Nat} {A : Ab} {v : Int32} {g : Nat} (c : RS h0 X h A) (hg : g < 4) : ∃ h2, fX13_anew (some 289) (nI g) v h = some ((), h2) ∧ RS h0 X h2 (gridOf A g v sp0) := by
  have hh := c.1
  have g1 := dnIn_nI (show g < 4 by omega) (by decide)
  have g2 : (nI g).toNatClampNeg = g := nI_clamp (by omega)
  have s1 : Sh (dnSI h 291 g v) := hh
  have KK := it_inv (f := fX13_anew_b9 (some 289) (nI g)) (Q := fun _ k => Eqc (fun x => x ≠ 292) (dnSI h 291 g v) k ∧ (∀ p, p < 6 → k.2.1 292 (6 * g + p) = -1) ∧ ∀ j, j < 24 → j / 6 ≠ g → k.2.1 292 j = rc (A.2.1 j)) (fun i s k => s = nI i ∧ Eqc (fun x => x ≠ 292) (dnSI h 291 g v) k ∧ (∀ p, p < i → k.2.1 292 (6 * g + p) = -1) ∧ ∀ j, j < 24 → j / 6 ≠ g → k.2.1 292 j = rc (A.2.1 j)) 6 1000 0 (by decide) (by decide) ?_ ?_ (nI 0) (dnSI h 291 g v) ⟨rfl, Eqc.rf, fun p hp => by omega, fun j hj _ => c.hd hj⟩
  · obtain ⟨_, h2, e, f1, f2, f3⟩ := KK
    rw [nI_0] at e
    refine ⟨h2, ?_, ?_⟩
    · simp only [fX13_anew, dnB_eval, g_289_4 hh, t_291 hh, g1, g2, if_true, e, dnP]
    · refine c.mh (M2 := fun j => if j = g then v else A.1 j) (H2 := fun k => if k / 6 = g then sp0 (k % 6) else A.2.1 k) ((eqc_SI (fun hc => hc.1 rfl)).tr (f1.im (fun x hx => hx.2))) (fun j hj => ?_) (fun k hk => ?_) (gridOf_live (g := g) (m := v) (fun p hp n hn e => absurd (show nI n < 0 by rw [← e]; exact (by decide : (-14 : Int32) < 0)) (nI_pos (by omega))))
      · rw [(f1.2.2 291 (by decide)).1, ← c.pl hj]
        show dnUp h.2.1 291 g v 291 j = _
        unfold dnUp
        simp
      · by_cases q : k / 6 = g
        · rw [if_pos q]
          have := f2 (k % 6) (Nat.mod_lt _ (by decide))
          rw [show 6 * g + k % 6 = k by omega] at this
          exact this
        · rw [if_neg q]
          exact f3 k hk q
  · rintro i s k hi ⟨rfl, k1, k2, k4⟩
    left
    have hk : Sh k := k1.sh s1
    have hc : ¬ ((6 : Int32) ≤ nI i) := fun hc => by have := (nI_leI (a := 6) (b := i) (by omega) (by omega)).mp hc; omega
    refine ⟨nI (i + 1), dnSI k 292 (6 * g + i) (-1), ?_, rfl, k1.tr (eqc_SI (fun hc => hc rfl)), fun p hp => ?_, fun j hj hjg => ?_⟩
    · simp only [fX13_anew_b9, hc, if_false, dnB_eval, v_289 hk, holdsNow_r hk hg hi, dnP, nI_1]
    · by_cases q : p = i
      · subst q
        simp [dnSI, dnUp]
      · have b1 := k2 p (by omega)
        simp [dnSI, dnUp, q, b1]
    · have n2 : ¬ j = 6 * g + i := by omega
      have := k4 j hj hjg
      simp [dnSI, dnUp, n2, this]
  · rintro s k ⟨rfl, k1, k2, k4⟩
    exact ⟨(), k, by simp only [fX13_anew_b9, show (6 : Int32) ≤ nI 6 by decide, if_true, dnP], k1, k2, k4⟩
theorem sp0_no {X : List Nat} {A : Ab} : ∀ p, p < 6 → ∀ n, n < 31 → sp0 p = nI n → live X A n := fun p hp n hn e => absurd (show nI n < 0 by rw [← e]; exact (by decide : (-14 : Int32) < 0)) (nI_pos (by omega))
theorem Wf.anew {B : Nat} {X : List Nat} {A : Ab} {g : Nat} {m : Int32} (w : Wf B X A) (hm : plOk m) : Wf B X (gridOf A g m sp0) := w.grid hm sp0_no (fun _ _ => .inl rfl) (fun _ _ _ => rfl)
theorem step_drop {B : Nat} (g : Int32) : Step B B (fX9_removeGrid (some 1) g) (fX13_dropDeed (some 289) g) := by
  intro A w
  have z1 : ¬ (0 : Int32) ≤ -1 := by decide
  have z2 : ¬ (0 : Int32) ≤ -2 := by decide
  have z0 : (0 : Int32) ≤ 0 := by decide
  cases hg : inB g 0 3
  · exact step_ro (-1) w (fun h0 h c => by simp only [fX9_removeGrid, fX9_gridFault, sv (st1 c.1), hg, z1, dnB_eval, c_isGrid, c_isKind, c_isSort, c_isPlain, r_isGrid, r_isKind, r_isSort, r_isPlain, r_in, dnP, Bool.false_eq_true, if_false, if_true]) (fun q0 q r => by simp only [fX13_dropDeed, hg, dnB_eval, c_isGrid, c_isKind, c_isSort, c_isPlain, r_isGrid, r_isKind, r_isSort, r_isPlain, r_in, dnP, Bool.false_eq_true, if_false, if_true])
  obtain ⟨G, hG, rfl⟩ := inB_of (n := 3) (by decide) hg
  have hG : G < 4 := by omega
  have g1 := dnIn_nI (show G < 4 by omega) (by decide)
  have g5 := dnIn_nI (show G < 5 by omega) (by decide)
  have g2 : (nI G).toNatClampNeg = G := nI_clamp (by omega)
  by_cases hn : A.1 G < 0
  · have hn2 : ¬ 0 ≤ A.1 G := Int32.not_le.mpr hn
    exact step_ro (-2) w (fun h0 h c => by simp only [fX9_removeGrid, sv (st1 c.1), gridFault_c c.1 hG, c.pl hG, hn, z2, dnB_eval, c_isGrid, c_isKind, c_isSort, c_isPlain, r_isGrid, r_isKind, r_isSort, r_isPlain, r_in, dnP, Bool.false_eq_true, if_false, if_true]) (fun q0 q r => by simp only [fX13_dropDeed, hg, g_289_4 r.1, a_291 r.1, g1, g2, r.pl hG, hn2, dnB_eval, c_isGrid, c_isKind, c_isSort, c_isPlain, r_isGrid, r_isKind, r_isSort, r_isPlain, r_in, dnP, Bool.false_eq_true, if_false, if_true])
  · have hn2 : 0 ≤ A.1 G := Int32.not_lt.mp hn
    refine ⟨A.1 G, gridOf A G (-1) sp0, w.anew (.inl rfl), fun h0 h c => ?_, fun q0 k r => ?_⟩
    · obtain ⟨a1, c1, a2⟩ := startGrid_A (v := -1) c
      obtain ⟨h2, a3, c2⟩ := finishGrid_A c1 hG a2 sp0_no
      have hd : h.2.1 (1 + 1) G = A.1 G := c.pl hG
      exact ⟨h2, by simp only [fX9_removeGrid, sv (st1 c.1), gridFault_c c.1 hG, c.pl hG, hn, z0, sg_0 (st1 c.1), sa_1 (st1 c.1), g5, g2, hd, a1, sv (st1 c1.1), a3, dnB_eval, c_isGrid, c_isKind, c_isSort, c_isPlain, r_isGrid, r_isKind, r_isSort, r_isPlain, r_in, dnP, Bool.false_eq_true, if_false, if_true], c2⟩
    · obtain ⟨k2, b1, r2⟩ := anew_A (v := -1) r hG
      exact ⟨k2, _, by simp only [fX13_dropDeed, hg, g_289_4 r.1, a_291 r.1, g1, g2, r.pl hG, hn2, v_289 r.1, b1, dnB_eval, c_isGrid, c_isKind, c_isSort, c_isPlain, r_isGrid, r_isKind, r_isSort, r_isPlain, r_in, dnP, Bool.false_eq_true, if_false, if_true], r2⟩
theorem call_drop {B : Nat} (g : Int32) : Call B B (fX12_drop (some 0) g) (fX13_drop (some 289) g) :=
  callA (Nat.le_refl _) (fun h v h1 s1 s2 e => by simp only [fX12_drop, dnB_eval, g_0_0 s1, sv (st1 s1), e, v_0 s2, tally_c s2, dnP]) (fun h v h1 s1 s2 e => by simp only [fX13_drop, dnB_eval, v_289 s1, e, v_289 s2, said_r s2, dnP]) (step_drop g)
theorem fl_id {h : dnH} (hz : ∀ r, r < 32 → h.2.1 295 r = 0) : flI h 295 32 0 = h := by
  have : dnUpA h.2.1 295 (fun k => if k < 32 then 0 else h.2.1 295 k) = h.2.1 := by
    funext x y
    unfold dnUpA
    split
    · rename_i hx
      subst hx
      dsimp only
      split
      · exact (hz y (by assumption)).symm
      · rfl
    · rfl
  unfold flI
  rw [this]
/-- a step whose answer the reference does not count -/
theorem callU {B B2 : Nat} {F G f g : dnM Int32} (hB : B ≤ B2) (hF : ∀ h v h1, Sh h → Sh h1 → f h = some (v, h1) → F h = some (v, cnt h1 288 v)) (hG : ∀ h v h1, Sh h → Sh h1 → (∀ r, r < 32 → h1.2.1 295 r = 0) → g h = some (v, h1) → G h = some (v, flI (cnt h1 290 v) 295 32 0)) (s : ∀ A, Wf B [] A → ∃ v A2, Wf B2 [] A2 ∧ (∀ h0 h, CS h0 sp0 [] h A → ∃ h1, f h = some (v, h1) ∧ CS h0 sp0 [] h1 A2) ∧ ∀ q0 q, RS q0 [] q A → ∃ q1, g q = some (v, q1) ∧ RS q0 [] q1 A2) : Call B B2 F G := by
  intro h a
  obtain ⟨A, w, c, r⟩ := openA a
  obtain ⟨v, A2, w2, kf, kg⟩ := s A w
  obtain ⟨h1, e1, c1⟩ := kf h h c
  obtain ⟨q1, e2, r2⟩ := kg _ _ (r h1 v c1.2.1)
  exact ⟨v, cnt h1 288 v, _, hF h v h1 a.1 c1.1 e1, hG _ v q1 (cntSh c1.1) r2.1 (fun r hr => r2.2.2.1 r hr) e2, closeA a hB w2 c1 r2⟩
theorem call_grid {B : Nat} (g n : Int32) : Call B B (fX12_grid (some 0) g n) (fX13_grid (some 289) g n) := by
  intro h a
  obtain ⟨A, w, c, r⟩ := openA a
  have hh := a.1
  have bad : ∀ v : Int32, fX9_newGrid (some 1) g n h = some (v, h) → fX13_grid (some 289) g n (cnt h 288 v) = some (v, flI (cnt (cnt h 288 v) 290 v) 295 32 0) → ∃ v h1 h2, fX12_grid (some 0) g n h = some (v, h1) ∧ fX13_grid (some 289) g n h1 = some (v, h2) ∧ Rel B h2 := fun v e1 e2 =>
    ⟨v, _, _, by simp only [fX12_grid, dnB_eval, g_0_0 hh, sv (st1 hh), e1, v_0 hh, tally_c hh, dnP], e2, close0 a v⟩
  have hs : ∀ {v : Int32}, Sh (cnt h 288 v) := fun {v} => cntSh hh
  cases hg : inB g 0 3
  · exact bad (-1) (by simp only [fX9_newGrid, hg, dnB_eval, c_isGrid, c_isKind, c_isSort, c_isPlain, r_isGrid, r_isKind, r_isSort, r_isPlain, r_in, dnP, Bool.false_eq_true, if_false, if_true]) (by simp only [fX13_grid, fX13_grid_j13, hg, v_289 hs, said_r hs, dnB_eval, c_isGrid, c_isKind, c_isSort, c_isPlain, r_isGrid, r_isKind, r_isSort, r_isPlain, r_in, dnP, Bool.false_eq_true, if_false, if_true])
  by_cases h6 : n ≤ 6
  · by_cases h0 : 0 ≤ n
    · obtain ⟨G, hG, rfl⟩ := inB_of (n := 3) (by decide) hg
      have hG : G < 4 := by omega
      obtain ⟨m, hm31, rfl⟩ := nI_of (Int32.not_lt.mpr h0)
      have hm6 : m ≤ 6 := (nI_leI (a := m) (b := 6) hm31 (by decide)).mp h6
      obtain ⟨a1, c1, a2⟩ := startGrid_A (v := nI m) c
      obtain ⟨h2, a3, c2⟩ := finishGrid_A c1 hG a2 sp0_no
      obtain ⟨k2, b1, r2⟩ := anew_A (v := nI m) (r h2 (nI m) c2.2.1) hG
      have z : flI (cnt k2 290 (nI m)) 295 32 0 = k2 := by
        rw [cnt_nI hm31]
        exact fl_id (fun x hx => r2.2.2.1 x hx)
      refine ⟨nI m, cnt h2 288 (nI m), k2, ?_, ?_, ?_⟩
      · simp only [fX12_grid, fX9_newGrid, g_0_0 hh, sv (st1 hh), hg, h6, h0, a1, sv (st1 c1.1), a3, v_0 c2.1, tally_c c2.1, dnB_eval, c_isGrid, c_isKind, c_isSort, c_isPlain, r_isGrid, r_isKind, r_isSort, r_isPlain, r_in, dnP, Bool.false_eq_true, if_false, if_true]
      · simp only [fX13_grid, hg, h6, h0, v_289 (cntSh c2.1), b1, dnB_eval, c_isGrid, c_isKind, c_isSort, c_isPlain, r_isGrid, r_isKind, r_isSort, r_isPlain, r_in, dnP, Bool.false_eq_true, if_false, if_true]
      · rw [← z]
        exact closeA a (Nat.le_refl _) (w.anew (.inr ⟨m, hm6, rfl⟩)) c2 r2
    · exact bad (-8) (by simp only [fX9_newGrid, hg, h6, h0, dnB_eval, c_isGrid, c_isKind, c_isSort, c_isPlain, r_isGrid, r_isKind, r_isSort, r_isPlain, r_in, dnP, Bool.false_eq_true, if_false, if_true]) (by simp only [fX13_grid, hg, h6, h0, v_289 hs, said_r hs, dnB_eval, c_isGrid, c_isKind, c_isSort, c_isPlain, r_isGrid, r_isKind, r_isSort, r_isPlain, r_in, dnP, Bool.false_eq_true, if_false, if_true])
  · exact bad (-1) (by simp only [fX9_newGrid, hg, h6, dnB_eval, c_isGrid, c_isKind, c_isSort, c_isPlain, r_isGrid, r_isKind, r_isSort, r_isPlain, r_in, dnP, Bool.false_eq_true, if_false, if_true]) (by simp only [fX13_grid, fX13_grid_j13, hg, h6, v_289 hs, said_r hs, dnB_eval, c_isGrid, c_isKind, c_isSort, c_isPlain, r_isGrid, r_isKind, r_isSort, r_isPlain, r_in, dnP, Bool.false_eq_true, if_false, if_true])
