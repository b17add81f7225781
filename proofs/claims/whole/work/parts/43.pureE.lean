/-! PURE 14: an answer is counted -/
def rfd (v : Int32) : Bool := decide (-10 ≤ v ∧ v ≤ -1 ∧ v ≠ -9)
theorem rfd_in {v : Int32} (h : rfd v = true) : dnIn (-v) 11 = true ∧ (-v).toNatClampNeg < 11 := by
  obtain ⟨h1, h2, -⟩ := of_decide_eq_true h
  have e1 := Int32.le_iff_toInt_le.mp h1
  have e2 := Int32.le_iff_toInt_le.mp h2
  have k1 : (-10 : Int32).toInt = -10 := by decide
  have k2 : (-1 : Int32).toInt = -1 := by decide
  have e3 : (-v).toInt = -v.toInt := by
    rw [Int32.toInt_neg]
    exact Int.bmod_eq_of_le (by omega) (by omega)
  refine ⟨decide_eq_true (by omega), ?_⟩
  show (-v).toInt.toNat < 11
  omega
def cnt (h : dnH) (a : Nat) (v : Int32) : dnH := if rfd v then dnSI h a (-v).toNatClampNeg (h.2.1 a (-v).toNatClampNeg + 1) else h
theorem tally_c {h : dnH} (hh : Sh h) (v : Int32) : fX12_tally (some 0) v h = some (v, cnt h 288 v) := by
  unfold fX12_tally cnt
  by_cases c : rfd v = true
  · obtain ⟨h1, h2, h3⟩ := of_decide_eq_true c
    obtain ⟨i1, -⟩ := rfd_in c
    rw [if_neg (Int32.not_lt.mpr h1), if_neg (Int32.not_lt.mpr h2), if_neg h3, if_pos c]
    simp only [dnB_eval, g_0_11 hh, a_288 hh, t_288 hh, i1, if_true, dnP]
  · rw [if_neg c]
    by_cases c1 : v < -10
    · rw [if_pos c1]; rfl
    · rw [if_neg c1]
      by_cases c2 : -1 < v
      · rw [if_pos c2]; rfl
      · rw [if_neg c2]
        by_cases c3 : v = -9
        · rw [if_pos c3]; rfl
        · exact absurd (decide_eq_true ⟨Int32.not_lt.mp c1, Int32.not_lt.mp c2, c3⟩) c
theorem ends_r {h : dnH} (hh : Sh h) : fX13_ends (some 289) h = some ((), flI h 295 32 0) := by
  have key : dnIt 1000 (fX13_ends_b2 (some 289)) (nI 0) h = some ((), flI h 295 32 0) := by
    have h0 : flI h 295 0 0 = h := by unfold flI; rw [fi_z]
    have := dnIt_run (f := fX13_ends_b2 (some 289)) (q := ()) (hq := flI h 295 32 0) 32 1000 (fun i => (nI i, flI h 295 i 0)) (by decide) ?_ ?_
    · simpa only [h0] using this
    · intro i hi
      have hc : ¬ ((32 : Int32) ≤ nI i) := fun hc => by have := (nI_leI (a := 32) (b := i) (by omega) (by omega)).mp hc; omega
      have hh2 : Sh (flI h 295 i 0) := hh
      simp only [fX13_ends_b2, if_neg hc, dnB_eval, g_289_8 hh2, t_295 hh2, dnIn_nI hi (by omega), if_true, nI_clamp (show i < 2 ^ 31 by omega), dnP, nI_1]
      unfold dnSI flI
      rw [fi_s]
    · have hc : ((32 : Int32) ≤ nI 32) := by decide
      simp only [fX13_ends_b2, if_pos hc, dnP]
  rw [nI_0] at key
  simp only [fX13_ends, dnB_eval, key, dnP]
theorem said_r {h : dnH} (hh : Sh h) (v : Int32) : fX13_said (some 289) v h = some (v, flI (cnt h 290 v) 295 32 0) := by
  have hh2 : Sh (cnt h 290 v) := by unfold cnt; split <;> exact hh
  have k27 : ∀ g : dnH, Sh g → fX13_said_j27 (some 289) v g = some (v, flI g 295 32 0) := fun g hg => by
    simp only [fX13_said_j27, dnB_eval, v_289 hg, ends_r hg, dnP]
  have k16 : rfd v = true → fX13_said_j16 (some 289) v h = some (v, flI (cnt h 290 v) 295 32 0) := fun c => by
    obtain ⟨i1, -⟩ := rfd_in c
    have e : cnt h 290 v = dnSI h 290 (-v).toNatClampNeg (h.2.1 290 (-v).toNatClampNeg + 1) := if_pos c
    rw [e] at hh2 ⊢
    simp only [fX13_said_j16, dnB_eval, g_289_0 hh, a_290 hh, t_290 hh, i1, if_true, k27 _ hh2]
  have hor : rfd v = (inB v (-8) (-1) || decide (v = -10)) := by
    unfold rfd inB
    rw [Bool.eq_iff_iff]
    simp only [Bool.or_eq_true, decide_eq_true_eq, Int32.le_iff_toInt_le, ← Int32.toInt_inj, Ne]
    have k1 : (-10 : Int32).toInt = -10 := by decide
    have k2 : (-1 : Int32).toInt = -1 := by decide
    have k3 : (-9 : Int32).toInt = -9 := by decide
    have k4 : (-8 : Int32).toInt = -8 := by decide
    rw [k1, k2, k3, k4]
    omega
  unfold fX13_said
  rw [r_in, dnB_P]
  by_cases c : inB v (-8) (-1) = true
  · rw [if_pos c]
    exact k16 (by rw [hor, c]; rfl)
  · rw [if_neg c]
    by_cases c2 : v = -10
    · rw [if_neg (Decidable.not_not.mpr c2)]
      exact k16 (by rw [hor]; simp [c2])
    · rw [if_pos c2]
      have e : cnt h 290 v = h := if_neg (by rw [hor]; simp [c, c2])
      rw [e]
      exact k27 h hh
