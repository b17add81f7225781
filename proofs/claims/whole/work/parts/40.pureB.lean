/-! PURE 11: places and what they hold, as the class and the reference look them up -/
def plOk (x : Int32) : Prop := x = -1 ∨ ∃ m : Nat, m ≤ 6 ∧ x = nI m
def pf (x p : Int32) : Int32 := if x < 0 then -2 else if 0 ≤ p ∧ p < x then 0 else -3
theorem st1 {h : dnH} (hh : Sh h) : StAt h 1 := hh.2.2.1
theorem hasPlace_c {h : dnH} (hh : Sh h) {g : Nat} (hg : g < 4) (p : Int32) : fX9_hasPlace (some 1) (nI g) p h = some (decide (0 ≤ p ∧ p < h.2.1 2 g), h) := by
  have hs := st1 hh
  have g0 : ¬ nI g < 0 := nI_pos (by omega)
  have g4 : ¬ (4 ≤ nI g) := by rw [show (4 : Int32) = nI 4 from rfl, nI_leI (by omega) (by omega)]; omega
  have e1 := dnIn_nI (show g < 5 by omega) (by decide)
  have e2 : (nI g).toNatClampNeg = g := nI_clamp (by omega)
  unfold fX9_hasPlace
  rw [if_neg g0, if_neg g4]
  by_cases c : p < 0
  · have : ¬ (0 ≤ p ∧ p < h.2.1 2 g) := fun hc => absurd hc.1 (Int32.not_le.mpr c)
    simp only [c, if_true, dnP, this, decide_false]
  · have c' : 0 ≤ p := Int32.not_lt.mp c
    simp only [c, if_false, dnB_eval, sg_0 hs, sa_1 hs, e1, e2, if_true]
    by_cases c2 : h.2.1 2 g ≤ p
    · have : ¬ (0 ≤ p ∧ p < h.2.1 2 g) := fun hc => absurd c2 (Int32.not_le.mpr hc.2)
      simp only [c2, if_true, dnP, this, decide_false]
    · have : (0 ≤ p ∧ p < h.2.1 2 g) := ⟨c', Int32.not_le.mp c2⟩
      simp only [c2, if_false, dnP, this, and_self, decide_true]
theorem inB_grid {g : Nat} (hg : g < 4) : inB (nI g) 0 3 = true := (by decide +kernel : ∀ g, g < 4 → inB (nI g) 0 3 = true) g hg
theorem gridFault_c {h : dnH} (hh : Sh h) {g : Nat} (hg : g < 4) : fX9_gridFault (some 1) (nI g) h = some (if h.2.1 2 g < 0 then -2 else 0, h) := by
  have hs := st1 hh
  have e1 := dnIn_nI (show g < 5 by omega) (by decide)
  have e2 : (nI g).toNatClampNeg = g := nI_clamp (by omega)
  simp only [fX9_gridFault, dnB_eval, c_isGrid, inB_grid hg, dnP, if_true, sg_0 hs, sa_1 hs, e1, e2]
  by_cases c : h.2.1 2 g < 0
  · rw [if_pos c, if_neg (Int32.not_le.mpr c)]
    rfl
  · rw [if_neg c, if_pos (Int32.not_lt.mp c)]
    rfl
theorem placeFault_c {h : dnH} (hh : Sh h) {g : Nat} (hg : g < 4) (p : Int32) : fX9_placeFault (some 1) (nI g) p h = some (pf (h.2.1 2 g) p, h) := by
  have hs := st1 hh
  simp only [fX9_placeFault, dnB_eval, sv hs, gridFault_c hh hg]
  unfold pf
  by_cases c : h.2.1 2 g < 0
  · simp only [c, if_true, show ¬ (0 : Int32) ≤ -2 by decide, if_false, dnP]
  · simp only [c, if_false, show (0 : Int32) ≤ 0 by decide, if_true, dnB_eval, sv hs, hasPlace_c hh hg]
    by_cases c2 : (0 ≤ p ∧ p < h.2.1 2 g)
    · simp only [c2, and_self, decide_true, if_true, dnP]
    · simp only [c2, decide_false, Bool.false_eq_true, if_false, dnP]
theorem inB_pf {x p : Int32} (hx : plOk x) (h0 : ¬ x < 0) : inB p 0 (x - 1) = decide (0 ≤ p ∧ p < x) := by
  unfold inB
  rcases hx with rfl | ⟨m, hm, rfl⟩
  · exact absurd (by decide) h0
  · have e : (nI m - 1).toInt = (m : Int) - 1 := by
      rw [Int32.toInt_sub, nI_toInt (by omega)]
      have : (1 : Int32).toInt = 1 := rfl
      rw [this]
      exact Int.bmod_eq_of_le (by omega) (by omega)
    have : (p ≤ nI m - 1) ↔ p < nI m := by
      rw [Int32.le_iff_toInt_le, Int32.lt_iff_toInt_lt, e, nI_toInt (by omega)]
      omega
    simp only [this]
theorem placeFault_r {h : dnH} (hh : Sh h) {g : Nat} (hg : g < 4) (hx : plOk (h.2.1 291 g)) (p : Int32) : fX13_placeFault (some 289) (nI g) p h = some (pf (h.2.1 291 g) p, h) := by
  have e1 := dnIn_nI (show g < 4 by omega) (by decide)
  have e2 : (nI g).toNatClampNeg = g := nI_clamp (by omega)
  simp only [fX13_placeFault, dnB_eval, g_289_4 hh, a_291 hh, e1, e2, if_true]
  unfold pf
  by_cases c : h.2.1 291 g < 0
  · simp only [Int32.not_le.mpr c, c, if_true, if_false, dnP]
  · simp only [Int32.not_lt.mp c, c, if_true, if_false, dnB_eval, g_289_4 hh, a_291 hh, e1, e2, r_in, inB_pf hx c, dnP]
    by_cases c2 : (0 ≤ p ∧ p < h.2.1 291 g)
    · simp only [c2, and_self, decide_true, if_true, dnP]
    · simp only [c2, decide_false, Bool.false_eq_true, if_false, dnP]
/-- where a place lies -/
theorem pf_0 {x p : Int32} (hx : plOk x) (h : pf x p = 0) : ∃ m q : Nat, m ≤ 6 ∧ x = nI m ∧ q < m ∧ p = nI q := by
  unfold pf at h
  rcases hx with rfl | ⟨m, hm, rfl⟩
  · rw [if_pos (by decide)] at h
    exact absurd h (by decide)
  · rw [if_neg (nI_pos (by omega))] at h
    by_cases c : (0 ≤ p ∧ p < nI m)
    · obtain ⟨j, hj, rfl⟩ := nI_of (Int32.not_lt.mpr c.1)
      exact ⟨m, j, hm, rfl, (nI_ltI hj (by omega)).mp c.2, rfl⟩
    · rw [if_neg c] at h
      exact absurd h (by decide)
theorem pf_nI {m q : Nat} (hm : m ≤ 6) (hq : q < m) : pf (nI m) (nI q) = 0 := by
  unfold pf
  rw [if_neg (nI_pos (by omega)), if_pos ⟨Int32.not_lt.mp (nI_pos (by omega)), (nI_ltI (by omega) (by omega)).mpr hq⟩]
