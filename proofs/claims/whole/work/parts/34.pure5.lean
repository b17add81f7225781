/-! PURE 5: a row's other functions; the reference's likeness -/
def numN (s : Nat) : Bool := decide (1 ≤ s ∧ s ≤ 7)
theorem c_isNumberN {s : Nat} (h : s < 12) : fX12_isNumber (nI s) = dnP (numN s) :=
  Hf.val hf_c_isNumber ((by decide +kernel : ∀ s, s < 12 → (fX12_isNumber (nI s) dnH0).map Prod.fst = some (numN s)) s h)
theorem r_isNumberN {s : Nat} (h : s < 12) : fX13_isNumber (nI s) = dnP (numN s) := by
  rw [r_isNumber, (by decide +kernel : ∀ s, s < 12 → inB (nI s) 1 7 = numN s) s h]
def dEq (x y : UInt64) : Bool := decide (Op.cmpValue (FP.dcmp x y) .l = 0)
def dGt (x y : UInt64) : Bool := decide (¬ Op.cmpValue (FP.dcmp x y) .l ≤ 0)
def lk (s : Nat) (n : Int64) (d : UInt64) (s2 : Nat) (n2 : Int64) (d2 : UInt64) : Bool :=
  if numN s && numN s2 then (if isRlN s || isRlN s2 then dEq (cvD s n d) (cvD s2 n2 d2) else decide (n = n2)) else decide (s = s2) && decide (n = n2)
theorem iteN {c : Prop} [Decidable c] : (if ¬ c then dnP false else dnP true) = dnP (decide c) := by by_cases h : c <;> simp [h]
theorem iteY {c : Prop} [Decidable c] : (if c then dnP false else dnP true) = dnP (decide (¬ c)) := by by_cases h : c <;> simp [h]
theorem lgP (x y : Int64) : (if ¬ lg_cmp x y = 0 then dnP false else dnP true) = dnP (decide (x = y)) := by
  simp only [lg_cmp_eq]
  by_cases h : x = y <;> simp [h]
theorem matches_c {h : dnH} {a i b j s s2 : Nat} (ha : RowAt h a) (hb : RowAt h b) (hi : i < 12) (hj : j < 12) (hs : h.2.1 (a + 1) i = nI s) (hs1 : s < 12) (hs2 : h.2.1 (b + 1) j = nI s2) (hs3 : s2 < 12) :
    fX5_matches (some a) (nI i) (some b) (nI j) h = some (lk s (h.2.2.1 (a + 2) i) (h.2.2.2.1 (a + 3) i) s2 (h.2.2.1 (b + 2) j) (h.2.2.2.1 (b + 3) j), h) := by
  have e1 := dnIn_nI hi (by decide)
  have e2 : (nI i).toNatClampNeg = i := nI_clamp (by omega)
  have f1 := dnIn_nI hj (by decide)
  have f2 : (nI j).toNatClampNeg = j := nI_clamp (by omega)
  have hne : nI s = nI s2 ↔ s = s2 := nI_eq (by omega) (by omega)
  have k90 : fX5_matches_j90 (some a) (nI i) (some b) (nI j) (nI s) (nI s2) h = some (decide (s = s2) && decide (h.2.2.1 (a + 2) i = h.2.2.1 (b + 2) j), h) := by
    unfold fX5_matches_j90
    by_cases h1 : s = s2
    · rw [if_neg (Decidable.not_not.mpr (hne.mpr h1))]
      simp only [dnB_eval, rg_4 ha, rg_4 hb, ra_2 ha, ra_2 hb, e1, e2, f1, f2, if_true, lgP, dnP, h1, decide_true, Bool.true_and]
    · rw [if_pos (fun hc => h1 (hne.mp hc))]
      simp only [h1, decide_false, Bool.false_and, dnP]
  have k48 : fX5_matches_j48 (some a) (nI i) (some b) (nI j) h = some (dEq (cvD s (h.2.2.1 (a + 2) i) (h.2.2.2.1 (a + 3) i)) (cvD s2 (h.2.2.1 (b + 2) j) (h.2.2.2.1 (b + 3) j)), h) := by
    simp only [fX5_matches_j48, dnB_eval, rv ha, rv hb, doubleAt_c ha hi hs hs1, doubleAt_c hb hj hs2 hs3, iteN]
    rfl
  simp only [fX5_matches, dnB_eval, rg_3 ha, rg_3 hb, ra_1 ha, ra_1 hb, e1, e2, f1, f2, if_true, hs, hs2, c_isNumberN hs1, c_isNumberN hs3, c_isReal, isRl_nI hs1, isRl_nI hs3, dnP]
  unfold lk
  cases numN s
  · simp only [Bool.false_eq_true, if_false, Bool.false_and, k90]
  · simp only [if_true, dnB_eval, c_isNumberN hs3, dnP]
    cases numN s2
    · simp only [Bool.false_eq_true, if_false, Bool.true_and, k90]
    · simp only [if_true, dnB_eval, c_isReal, isRl_nI hs1, dnP, Bool.true_and]
      cases isRlN s
      · simp only [Bool.false_eq_true, if_false, dnB_eval, c_isReal, isRl_nI hs3, dnP, Bool.false_or]
        cases isRlN s2
        · simp only [Bool.false_eq_true, if_false, dnB_eval, rg_4 ha, rg_4 hb, ra_2 ha, ra_2 hb, e1, e2, f1, f2, if_true, lgP, dnP]
        · simp only [if_true, k48]
      · simp only [if_true, Bool.true_or, k48]
theorem asDouble_r {s : Nat} (hs : s < 12) (hn : numN s = true) (n : Int64) (d : UInt64) : fX13_asDouble (nI s) n d = dnP (cvD s n d) := by
  have h6 : (6 ≤ nI s) ↔ isRlN s = true := (by decide +kernel : ∀ s, s < 12 → numN s = true → ((6 ≤ nI s) ↔ isRlN s = true)) s hs hn
  unfold fX13_asDouble cvD
  simp only [h6]
  split <;> rfl
theorem areLike_r {s s2 : Nat} (hs : s < 12) (hs2 : s2 < 12) (n n2 : Int64) (d d2 : UInt64) : fX13_areLike (nI s) n d (nI s2) n2 d2 = dnP (lk s n d s2 n2 d2) := by
  have hne : nI s = nI s2 ↔ s = s2 := nI_eq (by omega) (by omega)
  have k68 : fX13_areLike_j68 (nI s) n (nI s2) n2 = dnP (decide (s = s2) && decide (n = n2)) := by
    unfold fX13_areLike_j68
    rw [lgP]
    by_cases h1 : s = s2
    · rw [if_neg (Decidable.not_not.mpr (hne.mpr h1))]
      simp only [h1, decide_true, Bool.true_and]
    · rw [if_pos (fun hc => h1 (hne.mp hc))]
      simp only [h1, decide_false, Bool.false_and]
  unfold fX13_areLike lk
  rw [r_isNumberN hs, dnB_P, r_isNumberN hs2, dnB_P]
  cases hn1 : numN s
  · simp only [Bool.false_eq_true, if_false, Bool.false_and, k68]
  · cases hn2 : numN s2
    · simp only [if_true, Bool.false_eq_true, if_false, Bool.and_false, k68]
    · have k43 : fX13_areLike_j43 (nI s) n d (nI s2) n2 d2 = dnP (dEq (cvD s n d) (cvD s2 n2 d2)) := by
        unfold fX13_areLike_j43
        rw [asDouble_r hs hn1, dnB_P, asDouble_r hs2 hn2, dnB_P]
        rw [iteN]
        rfl
      have h6 : (6 ≤ nI s) ↔ isRlN s = true := (by decide +kernel : ∀ s, s < 12 → numN s = true → ((6 ≤ nI s) ↔ isRlN s = true)) s hs hn1
      have h62 : (6 ≤ nI s2) ↔ isRlN s2 = true := (by decide +kernel : ∀ s, s < 12 → numN s = true → ((6 ≤ nI s) ↔ isRlN s = true)) s2 hs2 hn2
      simp only [if_true, k43, lgP, h6, h62, Bool.and_self]
      cases isRlN s <;> cases isRlN s2 <;> simp

theorem hasCell_c {h : dnH} {a n : Nat} (ha : RowAt h a) (hl : h.2.1 a 2 = nI n) (hn : n ≤ 12) (i : Int32) : fX5_hasCell (some a) i h = some (decide (0 ≤ i.toInt ∧ i.toInt < n), h) := by
  have h0 : (i < 0) ↔ i.toInt < 0 := by rw [Int32.lt_iff_toInt_lt]; rfl
  have h1 : (nI n ≤ i) ↔ (n : Int) ≤ i.toInt := by rw [Int32.le_iff_toInt_le, nI_toInt (by omega)]
  unfold fX5_hasCell
  by_cases c0 : i.toInt < 0
  · rw [if_pos (h0.mpr c0)]
    simp only [dnP, show ¬ (0 ≤ i.toInt ∧ i.toInt < n) from fun hc => by omega, decide_false]
  · rw [if_neg (fun hc => c0 (h0.mp hc))]
    simp only [dnB_eval, rg_i ha, hl, h1]
    by_cases c1 : (n : Int) ≤ i.toInt
    · simp only [c1, if_true, dnP, show ¬ (0 ≤ i.toInt ∧ i.toInt < n) from fun hc => by omega, decide_false]
    · simp only [c1, if_false, dnP, show (0 ≤ i.toInt ∧ i.toInt < n) from by omega, and_self, decide_true]
theorem hasCell_cN {h : dnH} {a n i : Nat} (ha : RowAt h a) (hl : h.2.1 a 2 = nI n) (hn : n ≤ 12) (hi : i < 2 ^ 31) : fX5_hasCell (some a) (nI i) h = some (decide (i < n), h) := by
  rw [hasCell_c ha hl hn, nI_toInt hi]
  simp
theorem cellsReadAs_c {h : dnH} {a n kd as : Nat} (ha : RowAt h a) (hl : h.2.1 a 2 = nI n) (hn : n ≤ 12) (hk : h.2.1 a 1 = nI kd) (hkd : kd < 12) (has : as < 8) : fX5_cellsReadAs (some a) (nI as) h = some (decide (n = 0) || (decide (kd < 8) && tk as kd), h) := by
  have h0 : (nI n = 0) ↔ n = 0 := by rw [← nI_0]; exact nI_eq (by omega) (by omega)
  unfold fX5_cellsReadAs fX5_cellsReadAs_j18
  simp only [dnB_eval, rg_i ha, hl, h0]
  by_cases c : n = 0
  · simp only [c, if_true, dnP, decide_true, Bool.true_or]
  · simp only [c, if_false, dnB_eval, rg_i ha, hk, c_readsAs hkd (show as < 12 by omega), dnP, decide_false, Bool.false_or, has, decide_true, Bool.and_true]
    cases decide (kd < 8) && tk as kd <;> simp [dnP]
theorem exceeds_c {h : dnH} {a i b j s : Nat} (ha : RowAt h a) (hb : RowAt h b) (hi : i < 12) (hj : j < 12) (hs : h.2.1 (a + 1) i = nI s) (hs1 : s < 12) :
    fX5_exceeds (some a) (nI i) (some b) (nI j) h = some (if isRlN s then dGt (h.2.2.2.1 (a + 3) i) (h.2.2.2.1 (b + 3) j) else decide (h.2.2.1 (b + 2) j < h.2.2.1 (a + 2) i), h) := by
  have e1 := dnIn_nI hi (by decide)
  have e2 : (nI i).toNatClampNeg = i := nI_clamp (by omega)
  have f1 := dnIn_nI hj (by decide)
  have f2 : (nI j).toNatClampNeg = j := nI_clamp (by omega)
  simp only [fX5_exceeds, dnB_eval, rg_3 ha, ra_1 ha, e1, e2, if_true, hs, c_isReal, isRl_nI hs1, dnP]
  cases isRlN s
  · simp only [Bool.false_eq_true, if_false, dnB_eval, rg_4 ha, rg_4 hb, ra_2 ha, ra_2 hb, e1, e2, f1, f2, if_true, iteY, lg_cmp_le, Int64.not_le, dnP]
  · simp only [if_true, dnB_eval, rg_5 ha, rg_5 hb, ra_3 ha, ra_3 hb, e1, e2, f1, f2, iteY, dnP]
    rfl
theorem codeAt_c {h : dnH} {a i s : Nat} (ha : RowAt h a) (hi : i < 12) (hs : h.2.1 (a + 1) i = nI s) (hs1 : s < 12) (hok : isRlN s = true → ok64 (FP.dmul 4620693217682128896 (h.2.2.2.1 (a + 3) i))) :
    fX5_codeAt (some a) (nI i) h = some (if isRlN s then FP.d2l (FP.dmul 4620693217682128896 (h.2.2.2.1 (a + 3) i)) else h.2.2.1 (a + 2) i, h) := by
  have e1 := dnIn_nI hi (by decide)
  have e2 : (nI i).toNatClampNeg = i := nI_clamp (by omega)
  simp only [fX5_codeAt, dnB_eval, rg_3 ha, ra_1 ha, e1, e2, if_true, hs, c_isReal, isRl_nI hs1, dnP]
  cases hq : isRlN s
  · simp only [Bool.false_eq_true, if_false, dnB_eval, rg_4 ha, ra_2 ha, e1, e2, if_true, dnP]
  · simp only [if_true, dnB_eval, rg_5 ha, ra_3 ha, e1, e2, fX12_codeOfReal, n64_ok (hok hq), dnP]
