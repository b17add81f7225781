/-! PURE 3: the small tests of numbers -/
def inB (p lo hi : Int32) : Bool := decide (lo ≤ p ∧ p ≤ hi)
theorem r_in (p q r : Int32) : fX13_in p q r = dnP (inB p q r) := by
  unfold fX13_in inB
  simp only [← Int32.not_le]
  by_cases h1 : q ≤ p <;> by_cases h2 : p ≤ r <;> simp [h1, h2]
theorem i_lit {a b : Int32} {c : Int} (h : a.toInt + 1 = b.toInt) (p : Int32) : (b ≤ p) ↔ ¬ (p ≤ a) := by
  rw [Int32.le_iff_toInt_le, Int32.le_iff_toInt_le]; omega
theorem c_isGrid (p : Int32) : fX12_isGrid p = dnP (inB p 0 3) := by
  unfold fX12_isGrid inB
  simp only [← Int32.not_le]
  have := i_lit (a := 3) (b := 4) (c := 0) rfl p
  by_cases h1 : (0 : Int32) ≤ p <;> by_cases h2 : p ≤ 3 <;> simp [h1, h2, this]
theorem c_isKind (p : Int32) : fX12_isKind p = dnP (inB p 0 11) := by
  unfold fX12_isKind inB
  simp only [← Int32.not_le]
  have := i_lit (a := 11) (b := 12) (c := 0) rfl p
  by_cases h1 : (0 : Int32) ≤ p <;> by_cases h2 : p ≤ 11 <;> simp [h1, h2, this]
theorem c_isSort (p : Int32) : fX12_isSort p = dnP (inB p 0 11) := by
  unfold fX12_isSort inB
  simp only [← Int32.not_le]
  have := i_lit (a := 11) (b := 12) (c := 0) rfl p
  by_cases h1 : (0 : Int32) ≤ p <;> by_cases h2 : p ≤ 11 <;> simp [h1, h2, this]
theorem c_isPlain (p : Int32) : fX12_isPlain p = dnP (inB p 0 7) := by
  unfold fX12_isPlain inB
  simp only [← Int32.not_le]
  have := i_lit (a := 7) (b := 8) (c := 0) rfl p
  by_cases h1 : (0 : Int32) ≤ p <;> by_cases h2 : p ≤ 7 <;> simp [h1, h2, this]
theorem c_isAct (p : Int32) : fX12_isAct p = dnP (inB p 0 27) := by
  unfold fX12_isAct inB
  simp only [← Int32.not_le]
  have := i_lit (a := 27) (b := 28) (c := 0) rfl p
  by_cases h1 : (0 : Int32) ≤ p <;> by_cases h2 : p ≤ 27 <;> simp [h1, h2, this]
theorem c_isImage (p : Int32) : fX12_isImage p = dnP (inB p 0 1) := by
  unfold fX12_isImage inB
  simp only [← Int32.not_le]
  have := i_lit (a := 1) (b := 2) (c := 0) rfl p
  by_cases h1 : (0 : Int32) ≤ p <;> by_cases h2 : p ≤ 1 <;> simp [h1, h2, this]
theorem r_isGrid (p : Int32) : fX13_isGrid p = dnP (inB p 0 3) := by unfold fX13_isGrid; rw [r_in]; rfl
theorem r_isKind (p : Int32) : fX13_isKind p = dnP (inB p 0 11) := by unfold fX13_isKind; rw [r_in]; rfl
theorem r_isPlain (p : Int32) : fX13_isPlain p = dnP (inB p 0 7) := by unfold fX13_isPlain; rw [r_in]; rfl
theorem r_isSort (p : Int32) : fX13_isSort p = dnP (inB p 0 11) := by unfold fX13_isSort; rw [r_in]; rfl
theorem r_isNumber (p : Int32) : fX13_isNumber p = dnP (inB p 1 7) := by unfold fX13_isNumber; rw [r_in]; rfl
theorem inB_of {p : Int32} {n : Nat} (hn : n < 2 ^ 31) (h : inB p 0 (nI n) = true) : ∃ a : Nat, a ≤ n ∧ p = nI a := by
  obtain ⟨h1, h2⟩ := of_decide_eq_true h
  rw [Int32.le_iff_toInt_le] at h1 h2
  rw [nI_toInt (by omega)] at h2
  have h0 : (0 : Int32).toInt = 0 := rfl
  refine ⟨p.toInt.toNat, by omega, Int32.toInt_inj.mp ?_⟩
  rw [nI_toInt (by omega)]
  omega
theorem inB_nI {a n : Nat} (hn : n < 2 ^ 31) (h : a ≤ n) : inB (nI a) 0 (nI n) = true := by
  refine decide_eq_true ⟨?_, ?_⟩
  · rw [Int32.le_iff_toInt_le, nI_toInt (by omega)]
    exact Int.natCast_nonneg a
  · rw [Int32.le_iff_toInt_le, nI_toInt (by omega), nI_toInt (by omega)]
    omega
def isRl (s : Int32) : Bool := decide (s = 6 ∨ s = 7)
theorem c_isReal (p : Int32) : fX12_isReal p = dnP (isRl p) := by
  unfold fX12_isReal fX12_isReal_j12 isRl
  by_cases h1 : p = 6 <;> by_cases h2 : p = 7 <;> simp [h1, h2]
theorem c_readsAs {a b : Nat} (ha : a < 12) (hb : b < 12) : fX12_readsAs (nI a) (nI b) = dnP (decide (a < 8) && decide (b < 8) && tk b a) := by
  have h8 : ∀ a, a < 12 → inB (nI a) 0 7 = decide (a < 8) := by decide +kernel
  unfold fX12_readsAs
  rw [c_isPlain, c_isPlain, takesC hb ha, h8 a ha, h8 b hb]
  cases decide (a < 8) <;> cases decide (b < 8) <;> cases tk b a <;> rfl
