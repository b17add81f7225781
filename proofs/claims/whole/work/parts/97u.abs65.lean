/-! ABS 65: plan: the steps carried out -/
def cF (w : Nat) (a : Nat → Int32) : dnM Int32 :=
  if w = 0 then fX9_newRow (some 1) (a 0) (a 1) (a 2) (a 3) else if w = 1 then fX9_removeGrid (some 1) (a 0) else if w = 2 then fX9_exchange (some 1) (a 0) (a 1) (a 2) (a 3) else if w = 3 then fX9_shareContent (some 1) (a 0) (a 1) (a 2) (a 3) else if w = 4 then fX6_cutOut (some 259) (a 0) (a 1) (a 2) (a 3) (a 4) else if w = 5 then fX6_castRow (some 259) (a 0) (a 1) (a 2) else if w = 6 then fX6_joinRows (some 259) (a 0) (a 1) (a 2) else if w = 7 then fX6_reverse (some 259) (a 0) (a 1) else if w = 8 then fX6_rotate (some 259) (a 0) (a 1) (a 2) else if w = 9 then fX6_sortRow (some 259) (a 0) (a 1) else if w = 10 then fX6_increase (some 259) (a 0) (a 1) (a 2) (a 3) else if w = 11 then fX11_flatten (some 268) (a 0) (a 1) (a 2) else if w = 12 then fX11_dealOut (some 268) (a 0) (a 1) (a 2) (a 3) else fX11_transpose (some 268) (a 0) (a 1)
def rF (w : Nat) (a : Nat → Int32) : dnM Int32 :=
  if w = 0 then fX13_rowDeed (some 289) (a 0) (a 1) (a 2) (a 3) else if w = 1 then fX13_dropDeed (some 289) (a 0) else if w = 2 then fX13_swapDeed (some 289) (a 0) (a 1) (a 2) (a 3) else if w = 3 then fX13_shareDeed (some 289) (a 0) (a 1) (a 2) (a 3) else if w = 4 then fX13_cutDeed (some 289) (a 0) (a 1) (a 2) (a 3) (a 4) else if w = 5 then fX13_castDeed (some 289) (a 0) (a 1) (a 2) else if w = 6 then fX13_joinDeed (some 289) (a 0) (a 1) (a 2) else if w = 7 then fX13_flipDeed (some 289) (a 0) (a 1) else if w = 8 then fX13_rollDeed (some 289) (a 0) (a 1) (a 2) else if w = 9 then fX13_orderDeed (some 289) (a 0) (a 1) else if w = 10 then fX13_addDeed (some 289) (a 0) (a 1) (a 2) (a 3) else if w = 11 then fX13_flatDeed (some 289) (a 0) (a 1) (a 2) else if w = 12 then fX13_dealDeed (some 289) (a 0) (a 1) (a 2) (a 3) else fX13_turnDeed (some 289) (a 0) (a 1)
theorem cF_0 (a : Nat → Int32) : cF 0 a = fX9_newRow (some 1) (a 0) (a 1) (a 2) (a 3) := rfl
theorem rF_0 (a : Nat → Int32) : rF 0 a = fX13_rowDeed (some 289) (a 0) (a 1) (a 2) (a 3) := rfl
theorem cF_1 (a : Nat → Int32) : cF 1 a = fX9_removeGrid (some 1) (a 0) := rfl
theorem rF_1 (a : Nat → Int32) : rF 1 a = fX13_dropDeed (some 289) (a 0) := rfl
theorem cF_2 (a : Nat → Int32) : cF 2 a = fX9_exchange (some 1) (a 0) (a 1) (a 2) (a 3) := rfl
theorem rF_2 (a : Nat → Int32) : rF 2 a = fX13_swapDeed (some 289) (a 0) (a 1) (a 2) (a 3) := rfl
theorem cF_3 (a : Nat → Int32) : cF 3 a = fX9_shareContent (some 1) (a 0) (a 1) (a 2) (a 3) := rfl
theorem rF_3 (a : Nat → Int32) : rF 3 a = fX13_shareDeed (some 289) (a 0) (a 1) (a 2) (a 3) := rfl
theorem cF_4 (a : Nat → Int32) : cF 4 a = fX6_cutOut (some 259) (a 0) (a 1) (a 2) (a 3) (a 4) := rfl
theorem rF_4 (a : Nat → Int32) : rF 4 a = fX13_cutDeed (some 289) (a 0) (a 1) (a 2) (a 3) (a 4) := rfl
theorem cF_5 (a : Nat → Int32) : cF 5 a = fX6_castRow (some 259) (a 0) (a 1) (a 2) := rfl
theorem rF_5 (a : Nat → Int32) : rF 5 a = fX13_castDeed (some 289) (a 0) (a 1) (a 2) := rfl
theorem cF_6 (a : Nat → Int32) : cF 6 a = fX6_joinRows (some 259) (a 0) (a 1) (a 2) := rfl
theorem rF_6 (a : Nat → Int32) : rF 6 a = fX13_joinDeed (some 289) (a 0) (a 1) (a 2) := rfl
theorem cF_7 (a : Nat → Int32) : cF 7 a = fX6_reverse (some 259) (a 0) (a 1) := rfl
theorem rF_7 (a : Nat → Int32) : rF 7 a = fX13_flipDeed (some 289) (a 0) (a 1) := rfl
theorem cF_8 (a : Nat → Int32) : cF 8 a = fX6_rotate (some 259) (a 0) (a 1) (a 2) := rfl
theorem rF_8 (a : Nat → Int32) : rF 8 a = fX13_rollDeed (some 289) (a 0) (a 1) (a 2) := rfl
theorem cF_9 (a : Nat → Int32) : cF 9 a = fX6_sortRow (some 259) (a 0) (a 1) := rfl
theorem rF_9 (a : Nat → Int32) : rF 9 a = fX13_orderDeed (some 289) (a 0) (a 1) := rfl
theorem cF_10 (a : Nat → Int32) : cF 10 a = fX6_increase (some 259) (a 0) (a 1) (a 2) (a 3) := rfl
theorem rF_10 (a : Nat → Int32) : rF 10 a = fX13_addDeed (some 289) (a 0) (a 1) (a 2) (a 3) := rfl
theorem cF_11 (a : Nat → Int32) : cF 11 a = fX11_flatten (some 268) (a 0) (a 1) (a 2) := rfl
theorem rF_11 (a : Nat → Int32) : rF 11 a = fX13_flatDeed (some 289) (a 0) (a 1) (a 2) := rfl
theorem cF_12 (a : Nat → Int32) : cF 12 a = fX11_dealOut (some 268) (a 0) (a 1) (a 2) (a 3) := rfl
theorem rF_12 (a : Nat → Int32) : rF 12 a = fX13_dealDeed (some 289) (a 0) (a 1) (a 2) (a 3) := rfl
theorem cF_13 (a : Nat → Int32) : cF 13 a = fX11_transpose (some 268) (a 0) (a 1) := rfl
theorem rF_13 (a : Nat → Int32) : rF 13 a = fX13_turnDeed (some 289) (a 0) (a 1) := rfl
theorem Step.mono {B B2 B3 : Nat} {f g : dnM Int32} (s : Step B B2 f g) (h : B2 ≤ B3) : Step B B3 f g := fun A w => by
  obtain ⟨v, A2, w2, k⟩ := s A w
  exact ⟨v, A2, w2.mono h, k⟩
theorem w14 {w : Nat} (hw : w < 14) : w = 0 ∨ w = 1 ∨ w = 2 ∨ w = 3 ∨ w = 4 ∨ w = 5 ∨ w = 6 ∨ w = 7 ∨ w = 8 ∨ w = 9 ∨ w = 10 ∨ w = 11 ∨ w = 12 ∨ w = 13 := by omega
theorem step_W {B : Nat} (hB : 16 ≤ B) (hB2 : B + 16 < 2 ^ 24) {w : Nat} (hw : w < 14) (a : Nat → Int32) : Step B (B + 16) (cF w a) (rF w a) := by
  rcases w14 hw with rfl | rfl | rfl | rfl | rfl | rfl | rfl | rfl | rfl | rfl | rfl | rfl | rfl | rfl
  · rw [cF_0, rF_0]; exact (step_row hB _ _ _ _).mono (by omega)
  · rw [cF_1, rF_1]; exact (step_drop _).mono (by omega)
  · rw [cF_2, rF_2]; exact (step_swap _ _ _ _).mono (by omega)
  · rw [cF_3, rF_3]; exact (step_share _ _ _ _).mono (by omega)
  · rw [cF_4, rF_4]; exact (step_cut hB _ _ _ _ _).mono (by omega)
  · rw [cF_5, rF_5]; exact (step_cast hB _ _ _).mono (by omega)
  · rw [cF_6, rF_6]; exact (step_join hB _ _ _).mono (by omega)
  · rw [cF_7, rF_7]; exact (step_flip _ _).mono (by omega)
  · rw [cF_8, rF_8]; exact (step_roll _ _ _).mono (by omega)
  · rw [cF_9, rF_9]; exact (step_order hB _ _).mono (by omega)
  · rw [cF_10, rF_10]; exact step_add hB hB2 _ _ _ _
  · rw [cF_11, rF_11]; exact (step_flat hB _ _ _).mono (by omega)
  · rw [cF_12, rF_12]; exact (step_deal hB _ _ _ _).mono (by omega)
  · rw [cF_13, rF_13]; exact (step_turn hB _ _).mono (by omega)
theorem num_c {h : dnH} {j i : Nat} (hs : Sh h) (hj : j < 8) (hi : i < 5) : fX3_numberOf (some 281) (nI j) (nI i) h = some (h.2.1 284 (5 * j + i), h) := by
  have ei : nI j * 5 + nI i = nI (5 * j + i) := by rw [show (5 : Int32) = nI 5 from rfl, nI_mul, nI_add, Nat.mul_comm]
  have ai : dnAI (some 284) 100 (nI (5 * j + i)) h = some (h.2.1 284 (5 * j + i), h) := by
    rw [a_284 hs, dnIn_nI (show 5 * j + i < 40 by omega) (by decide), nI_clamp (by omega)]
    rfl
  simp only [fX3_numberOf, dnB_eval, g_281_3 hs, ei, ai, dnP]
theorem carry_c {h : dnH} {j w : Nat} {a : Nat → Int32} (hs : Sh h) (hj : j < 8) (hw : w < 14) (h3 : h.2.1 283 j = nI w) (ha : ∀ i, i < cnW w → h.2.1 284 (5 * j + i) = a i) : fX12_carryOut (some 0) (nI j) h = cF w a h := by
  have wo : fX3_wordOf (some 281) (nI j) h = some (w, h) := by
    have a3 : dnAI (some 283) 100 (nI j) h = some (nI w, h) := by
      rw [a_283 hs, dnIn_nI hj (by decide), nI_clamp (by omega), h3]
      rfl
    simp only [fX3_wordOf, dnB_eval, g_281_2 hs, a3, dnXW_A hw, dnP]
  have n0 : fX3_numberOf (some 281) (nI j) 0 h = some (h.2.1 284 (5 * j + 0), h) := num_c hs hj (by decide)
  have n1 : fX3_numberOf (some 281) (nI j) 1 h = some (h.2.1 284 (5 * j + 1), h) := num_c hs hj (by decide)
  have n2 : fX3_numberOf (some 281) (nI j) 2 h = some (h.2.1 284 (5 * j + 2), h) := num_c hs hj (by decide)
  have n3 : fX3_numberOf (some 281) (nI j) 3 h = some (h.2.1 284 (5 * j + 3), h) := num_c hs hj (by decide)
  have n4 : fX3_numberOf (some 281) (nI j) 4 h = some (h.2.1 284 (5 * j + 4), h) := num_c hs hj (by decide)
  have xs : dnXs (Int32.ofNat w) h = some (dnSw w, h) := by
    show dnXs (nI w) h = _
    unfold dnXs
    rw [dnIn_nI (show w < 14 by omega) (by decide), nI_clamp (by omega)]
    rfl
  rcases w14 hw with rfl | rfl | rfl | rfl | rfl | rfl | rfl | rfl | rfl | rfl | rfl | rfl | rfl | rfl
  · have es : dnSw 0 = 1 := rfl
    rw [cF_0]
    simp only [fX12_carryOut, dnB_eval, g_0_9 hs, v_281 hs, n0, n1, n2, n3, n4, wo, dnSk_A (show 0 < 14 by decide), xs, es, show ¬ ((1 : Int32) = 2) by decide, show ¬ ((1 : Int32) = 3) by decide, show ¬ ((1 : Int32) = 4) by decide, show ¬ ((1 : Int32) = 5) by decide, show ¬ ((1 : Int32) = 6) by decide, show ¬ ((1 : Int32) = 7) by decide, show ¬ ((1 : Int32) = 8) by decide, show ¬ ((1 : Int32) = 9) by decide, show ¬ ((1 : Int32) = 10) by decide, show ¬ ((1 : Int32) = 11) by decide, show ¬ ((1 : Int32) = 12) by decide, show ¬ ((1 : Int32) = 13) by decide, if_false, if_true, g_0_0 hs, sv (st1 hs), ha 0 (by decide), ha 1 (by decide), ha 2 (by decide), ha 3 (by decide), dnP]
    generalize fX9_newRow (some 1) (a 0) (a 1) (a 2) (a 3) h = o; cases o <;> rfl
  · have es : dnSw 1 = 2 := rfl
    rw [cF_1]
    simp only [fX12_carryOut, dnB_eval, g_0_9 hs, v_281 hs, n0, n1, n2, n3, n4, wo, dnSk_A (show 1 < 14 by decide), xs, es, show ¬ ((2 : Int32) = 1) by decide, show ¬ ((2 : Int32) = 3) by decide, show ¬ ((2 : Int32) = 4) by decide, show ¬ ((2 : Int32) = 5) by decide, show ¬ ((2 : Int32) = 6) by decide, show ¬ ((2 : Int32) = 7) by decide, show ¬ ((2 : Int32) = 8) by decide, show ¬ ((2 : Int32) = 9) by decide, show ¬ ((2 : Int32) = 10) by decide, show ¬ ((2 : Int32) = 11) by decide, show ¬ ((2 : Int32) = 12) by decide, show ¬ ((2 : Int32) = 13) by decide, if_false, if_true, g_0_0 hs, sv (st1 hs), ha 0 (by decide), dnP]
    generalize fX9_removeGrid (some 1) (a 0) h = o; cases o <;> rfl
  · have es : dnSw 2 = 3 := rfl
    rw [cF_2]
    simp only [fX12_carryOut, dnB_eval, g_0_9 hs, v_281 hs, n0, n1, n2, n3, n4, wo, dnSk_A (show 2 < 14 by decide), xs, es, show ¬ ((3 : Int32) = 1) by decide, show ¬ ((3 : Int32) = 2) by decide, show ¬ ((3 : Int32) = 4) by decide, show ¬ ((3 : Int32) = 5) by decide, show ¬ ((3 : Int32) = 6) by decide, show ¬ ((3 : Int32) = 7) by decide, show ¬ ((3 : Int32) = 8) by decide, show ¬ ((3 : Int32) = 9) by decide, show ¬ ((3 : Int32) = 10) by decide, show ¬ ((3 : Int32) = 11) by decide, show ¬ ((3 : Int32) = 12) by decide, show ¬ ((3 : Int32) = 13) by decide, if_false, if_true, g_0_0 hs, sv (st1 hs), ha 0 (by decide), ha 1 (by decide), ha 2 (by decide), ha 3 (by decide), dnP]
    generalize fX9_exchange (some 1) (a 0) (a 1) (a 2) (a 3) h = o; cases o <;> rfl
  · have es : dnSw 3 = 4 := rfl
    rw [cF_3]
    simp only [fX12_carryOut, dnB_eval, g_0_9 hs, v_281 hs, n0, n1, n2, n3, n4, wo, dnSk_A (show 3 < 14 by decide), xs, es, show ¬ ((4 : Int32) = 1) by decide, show ¬ ((4 : Int32) = 2) by decide, show ¬ ((4 : Int32) = 3) by decide, show ¬ ((4 : Int32) = 5) by decide, show ¬ ((4 : Int32) = 6) by decide, show ¬ ((4 : Int32) = 7) by decide, show ¬ ((4 : Int32) = 8) by decide, show ¬ ((4 : Int32) = 9) by decide, show ¬ ((4 : Int32) = 10) by decide, show ¬ ((4 : Int32) = 11) by decide, show ¬ ((4 : Int32) = 12) by decide, show ¬ ((4 : Int32) = 13) by decide, if_false, if_true, g_0_0 hs, sv (st1 hs), ha 0 (by decide), ha 1 (by decide), ha 2 (by decide), ha 3 (by decide), dnP]
    generalize fX9_shareContent (some 1) (a 0) (a 1) (a 2) (a 3) h = o; cases o <;> rfl
  · have es : dnSw 4 = 5 := rfl
    rw [cF_4]
    simp only [fX12_carryOut, dnB_eval, g_0_9 hs, v_281 hs, n0, n1, n2, n3, n4, wo, dnSk_A (show 4 < 14 by decide), xs, es, show ¬ ((5 : Int32) = 1) by decide, show ¬ ((5 : Int32) = 2) by decide, show ¬ ((5 : Int32) = 3) by decide, show ¬ ((5 : Int32) = 4) by decide, show ¬ ((5 : Int32) = 6) by decide, show ¬ ((5 : Int32) = 7) by decide, show ¬ ((5 : Int32) = 8) by decide, show ¬ ((5 : Int32) = 9) by decide, show ¬ ((5 : Int32) = 10) by decide, show ¬ ((5 : Int32) = 11) by decide, show ¬ ((5 : Int32) = 12) by decide, show ¬ ((5 : Int32) = 13) by decide, if_false, if_true, g_0_4 hs, v_259 hs, ha 0 (by decide), ha 1 (by decide), ha 2 (by decide), ha 3 (by decide), ha 4 (by decide), dnP]
    generalize fX6_cutOut (some 259) (a 0) (a 1) (a 2) (a 3) (a 4) h = o; cases o <;> rfl
  · have es : dnSw 5 = 6 := rfl
    rw [cF_5]
    simp only [fX12_carryOut, dnB_eval, g_0_9 hs, v_281 hs, n0, n1, n2, n3, n4, wo, dnSk_A (show 5 < 14 by decide), xs, es, show ¬ ((6 : Int32) = 1) by decide, show ¬ ((6 : Int32) = 2) by decide, show ¬ ((6 : Int32) = 3) by decide, show ¬ ((6 : Int32) = 4) by decide, show ¬ ((6 : Int32) = 5) by decide, show ¬ ((6 : Int32) = 7) by decide, show ¬ ((6 : Int32) = 8) by decide, show ¬ ((6 : Int32) = 9) by decide, show ¬ ((6 : Int32) = 10) by decide, show ¬ ((6 : Int32) = 11) by decide, show ¬ ((6 : Int32) = 12) by decide, show ¬ ((6 : Int32) = 13) by decide, if_false, if_true, g_0_4 hs, v_259 hs, ha 0 (by decide), ha 1 (by decide), ha 2 (by decide), dnP]
    generalize fX6_castRow (some 259) (a 0) (a 1) (a 2) h = o; cases o <;> rfl
  · have es : dnSw 6 = 7 := rfl
    rw [cF_6]
    simp only [fX12_carryOut, dnB_eval, g_0_9 hs, v_281 hs, n0, n1, n2, n3, n4, wo, dnSk_A (show 6 < 14 by decide), xs, es, show ¬ ((7 : Int32) = 1) by decide, show ¬ ((7 : Int32) = 2) by decide, show ¬ ((7 : Int32) = 3) by decide, show ¬ ((7 : Int32) = 4) by decide, show ¬ ((7 : Int32) = 5) by decide, show ¬ ((7 : Int32) = 6) by decide, show ¬ ((7 : Int32) = 8) by decide, show ¬ ((7 : Int32) = 9) by decide, show ¬ ((7 : Int32) = 10) by decide, show ¬ ((7 : Int32) = 11) by decide, show ¬ ((7 : Int32) = 12) by decide, show ¬ ((7 : Int32) = 13) by decide, if_false, if_true, g_0_4 hs, v_259 hs, ha 0 (by decide), ha 1 (by decide), ha 2 (by decide), dnP]
    generalize fX6_joinRows (some 259) (a 0) (a 1) (a 2) h = o; cases o <;> rfl
  · have es : dnSw 7 = 8 := rfl
    rw [cF_7]
    simp only [fX12_carryOut, dnB_eval, g_0_9 hs, v_281 hs, n0, n1, n2, n3, n4, wo, dnSk_A (show 7 < 14 by decide), xs, es, show ¬ ((8 : Int32) = 1) by decide, show ¬ ((8 : Int32) = 2) by decide, show ¬ ((8 : Int32) = 3) by decide, show ¬ ((8 : Int32) = 4) by decide, show ¬ ((8 : Int32) = 5) by decide, show ¬ ((8 : Int32) = 6) by decide, show ¬ ((8 : Int32) = 7) by decide, show ¬ ((8 : Int32) = 9) by decide, show ¬ ((8 : Int32) = 10) by decide, show ¬ ((8 : Int32) = 11) by decide, show ¬ ((8 : Int32) = 12) by decide, show ¬ ((8 : Int32) = 13) by decide, if_false, if_true, g_0_4 hs, v_259 hs, ha 0 (by decide), ha 1 (by decide), dnP]
    generalize fX6_reverse (some 259) (a 0) (a 1) h = o; cases o <;> rfl
  · have es : dnSw 8 = 9 := rfl
    rw [cF_8]
    simp only [fX12_carryOut, dnB_eval, g_0_9 hs, v_281 hs, n0, n1, n2, n3, n4, wo, dnSk_A (show 8 < 14 by decide), xs, es, show ¬ ((9 : Int32) = 1) by decide, show ¬ ((9 : Int32) = 2) by decide, show ¬ ((9 : Int32) = 3) by decide, show ¬ ((9 : Int32) = 4) by decide, show ¬ ((9 : Int32) = 5) by decide, show ¬ ((9 : Int32) = 6) by decide, show ¬ ((9 : Int32) = 7) by decide, show ¬ ((9 : Int32) = 8) by decide, show ¬ ((9 : Int32) = 10) by decide, show ¬ ((9 : Int32) = 11) by decide, show ¬ ((9 : Int32) = 12) by decide, show ¬ ((9 : Int32) = 13) by decide, if_false, if_true, g_0_4 hs, v_259 hs, ha 0 (by decide), ha 1 (by decide), ha 2 (by decide), dnP]
    generalize fX6_rotate (some 259) (a 0) (a 1) (a 2) h = o; cases o <;> rfl
  · have es : dnSw 9 = 10 := rfl
    rw [cF_9]
    simp only [fX12_carryOut, dnB_eval, g_0_9 hs, v_281 hs, n0, n1, n2, n3, n4, wo, dnSk_A (show 9 < 14 by decide), xs, es, show ¬ ((10 : Int32) = 1) by decide, show ¬ ((10 : Int32) = 2) by decide, show ¬ ((10 : Int32) = 3) by decide, show ¬ ((10 : Int32) = 4) by decide, show ¬ ((10 : Int32) = 5) by decide, show ¬ ((10 : Int32) = 6) by decide, show ¬ ((10 : Int32) = 7) by decide, show ¬ ((10 : Int32) = 8) by decide, show ¬ ((10 : Int32) = 9) by decide, show ¬ ((10 : Int32) = 11) by decide, show ¬ ((10 : Int32) = 12) by decide, show ¬ ((10 : Int32) = 13) by decide, if_false, if_true, g_0_4 hs, v_259 hs, ha 0 (by decide), ha 1 (by decide), dnP]
    generalize fX6_sortRow (some 259) (a 0) (a 1) h = o; cases o <;> rfl
  · have es : dnSw 10 = 11 := rfl
    rw [cF_10]
    simp only [fX12_carryOut, dnB_eval, g_0_9 hs, v_281 hs, n0, n1, n2, n3, n4, wo, dnSk_A (show 10 < 14 by decide), xs, es, show ¬ ((11 : Int32) = 1) by decide, show ¬ ((11 : Int32) = 2) by decide, show ¬ ((11 : Int32) = 3) by decide, show ¬ ((11 : Int32) = 4) by decide, show ¬ ((11 : Int32) = 5) by decide, show ¬ ((11 : Int32) = 6) by decide, show ¬ ((11 : Int32) = 7) by decide, show ¬ ((11 : Int32) = 8) by decide, show ¬ ((11 : Int32) = 9) by decide, show ¬ ((11 : Int32) = 10) by decide, show ¬ ((11 : Int32) = 12) by decide, show ¬ ((11 : Int32) = 13) by decide, if_false, if_true, g_0_4 hs, v_259 hs, ha 0 (by decide), ha 1 (by decide), ha 2 (by decide), ha 3 (by decide), dnP]
    generalize fX6_increase (some 259) (a 0) (a 1) (a 2) (a 3) h = o; cases o <;> rfl
  · have es : dnSw 11 = 12 := rfl
    rw [cF_11]
    simp only [fX12_carryOut, dnB_eval, g_0_9 hs, v_281 hs, n0, n1, n2, n3, n4, wo, dnSk_A (show 11 < 14 by decide), xs, es, show ¬ ((12 : Int32) = 1) by decide, show ¬ ((12 : Int32) = 2) by decide, show ¬ ((12 : Int32) = 3) by decide, show ¬ ((12 : Int32) = 4) by decide, show ¬ ((12 : Int32) = 5) by decide, show ¬ ((12 : Int32) = 6) by decide, show ¬ ((12 : Int32) = 7) by decide, show ¬ ((12 : Int32) = 8) by decide, show ¬ ((12 : Int32) = 9) by decide, show ¬ ((12 : Int32) = 10) by decide, show ¬ ((12 : Int32) = 11) by decide, show ¬ ((12 : Int32) = 13) by decide, if_false, if_true, g_0_5 hs, v_268 hs, ha 0 (by decide), ha 1 (by decide), ha 2 (by decide), dnP]
    generalize fX11_flatten (some 268) (a 0) (a 1) (a 2) h = o; cases o <;> rfl
  · have es : dnSw 12 = 13 := rfl
    rw [cF_12]
    simp only [fX12_carryOut, dnB_eval, g_0_9 hs, v_281 hs, n0, n1, n2, n3, n4, wo, dnSk_A (show 12 < 14 by decide), xs, es, show ¬ ((13 : Int32) = 1) by decide, show ¬ ((13 : Int32) = 2) by decide, show ¬ ((13 : Int32) = 3) by decide, show ¬ ((13 : Int32) = 4) by decide, show ¬ ((13 : Int32) = 5) by decide, show ¬ ((13 : Int32) = 6) by decide, show ¬ ((13 : Int32) = 7) by decide, show ¬ ((13 : Int32) = 8) by decide, show ¬ ((13 : Int32) = 9) by decide, show ¬ ((13 : Int32) = 10) by decide, show ¬ ((13 : Int32) = 11) by decide, show ¬ ((13 : Int32) = 12) by decide, if_false, if_true, g_0_5 hs, v_268 hs, ha 0 (by decide), ha 1 (by decide), ha 2 (by decide), ha 3 (by decide), dnP]
    generalize fX11_dealOut (some 268) (a 0) (a 1) (a 2) (a 3) h = o; cases o <;> rfl
  · have es : dnSw 13 = 0 := rfl
    rw [cF_13]
    simp only [fX12_carryOut, dnB_eval, g_0_9 hs, v_281 hs, n0, n1, n2, n3, n4, wo, dnSk_A (show 13 < 14 by decide), xs, es, show ¬ ((0 : Int32) = 1) by decide, show ¬ ((0 : Int32) = 2) by decide, show ¬ ((0 : Int32) = 3) by decide, show ¬ ((0 : Int32) = 4) by decide, show ¬ ((0 : Int32) = 5) by decide, show ¬ ((0 : Int32) = 6) by decide, show ¬ ((0 : Int32) = 7) by decide, show ¬ ((0 : Int32) = 8) by decide, show ¬ ((0 : Int32) = 9) by decide, show ¬ ((0 : Int32) = 10) by decide, show ¬ ((0 : Int32) = 11) by decide, show ¬ ((0 : Int32) = 12) by decide, show ¬ ((0 : Int32) = 13) by decide, if_false, if_true, g_0_5 hs, v_268 hs, ha 0 (by decide), ha 1 (by decide), dnP]
    generalize fX11_transpose (some 268) (a 0) (a 1) h = o; cases o <;> rfl
theorem does_r {h : dnH} {w : Nat} {a : Nat → Int32} {b0 b1 b2 b3 b4 : Int32} (hs : Sh h) (hw : w < 14) (h0 : 0 < cnW w → b0 = a 0) (h1 : 1 < cnW w → b1 = a 1) (h2 : 2 < cnW w → b2 = a 2) (h3 : 3 < cnW w → b3 = a 3) (h4 : 4 < cnW w → b4 = a 4) : fX13_does (some 289) (nI w) b0 b1 b2 b3 b4 h = rF w a h := by
  rcases w14 hw with rfl | rfl | rfl | rfl | rfl | rfl | rfl | rfl | rfl | rfl | rfl | rfl | rfl | rfl
  · rw [rF_0, show nI 0 = 0 from rfl]
    simp only [fX13_does, show ¬ ((0 : Int32) = 1) by decide, show ¬ ((0 : Int32) = 2) by decide, show ¬ ((0 : Int32) = 3) by decide, show ¬ ((0 : Int32) = 4) by decide, show ¬ ((0 : Int32) = 5) by decide, show ¬ ((0 : Int32) = 6) by decide, show ¬ ((0 : Int32) = 7) by decide, show ¬ ((0 : Int32) = 8) by decide, show ¬ ((0 : Int32) = 9) by decide, show ¬ ((0 : Int32) = 10) by decide, show ¬ ((0 : Int32) = 11) by decide, show ¬ ((0 : Int32) = 12) by decide, if_false, if_true, dnB_eval, v_289 hs, h0 (by decide), h1 (by decide), h2 (by decide), h3 (by decide), dnP]
    generalize fX13_rowDeed (some 289) (a 0) (a 1) (a 2) (a 3) h = o; cases o <;> rfl
  · rw [rF_1, show nI 1 = 1 from rfl]
    simp only [fX13_does, show ¬ ((1 : Int32) = 0) by decide, show ¬ ((1 : Int32) = 2) by decide, show ¬ ((1 : Int32) = 3) by decide, show ¬ ((1 : Int32) = 4) by decide, show ¬ ((1 : Int32) = 5) by decide, show ¬ ((1 : Int32) = 6) by decide, show ¬ ((1 : Int32) = 7) by decide, show ¬ ((1 : Int32) = 8) by decide, show ¬ ((1 : Int32) = 9) by decide, show ¬ ((1 : Int32) = 10) by decide, show ¬ ((1 : Int32) = 11) by decide, show ¬ ((1 : Int32) = 12) by decide, if_false, if_true, dnB_eval, v_289 hs, h0 (by decide), dnP]
    generalize fX13_dropDeed (some 289) (a 0) h = o; cases o <;> rfl
  · rw [rF_2, show nI 2 = 2 from rfl]
    simp only [fX13_does, show ¬ ((2 : Int32) = 0) by decide, show ¬ ((2 : Int32) = 1) by decide, show ¬ ((2 : Int32) = 3) by decide, show ¬ ((2 : Int32) = 4) by decide, show ¬ ((2 : Int32) = 5) by decide, show ¬ ((2 : Int32) = 6) by decide, show ¬ ((2 : Int32) = 7) by decide, show ¬ ((2 : Int32) = 8) by decide, show ¬ ((2 : Int32) = 9) by decide, show ¬ ((2 : Int32) = 10) by decide, show ¬ ((2 : Int32) = 11) by decide, show ¬ ((2 : Int32) = 12) by decide, if_false, if_true, dnB_eval, v_289 hs, h0 (by decide), h1 (by decide), h2 (by decide), h3 (by decide), dnP]
    generalize fX13_swapDeed (some 289) (a 0) (a 1) (a 2) (a 3) h = o; cases o <;> rfl
  · rw [rF_3, show nI 3 = 3 from rfl]
    simp only [fX13_does, show ¬ ((3 : Int32) = 0) by decide, show ¬ ((3 : Int32) = 1) by decide, show ¬ ((3 : Int32) = 2) by decide, show ¬ ((3 : Int32) = 4) by decide, show ¬ ((3 : Int32) = 5) by decide, show ¬ ((3 : Int32) = 6) by decide, show ¬ ((3 : Int32) = 7) by decide, show ¬ ((3 : Int32) = 8) by decide, show ¬ ((3 : Int32) = 9) by decide, show ¬ ((3 : Int32) = 10) by decide, show ¬ ((3 : Int32) = 11) by decide, show ¬ ((3 : Int32) = 12) by decide, if_false, if_true, dnB_eval, v_289 hs, h0 (by decide), h1 (by decide), h2 (by decide), h3 (by decide), dnP]
    generalize fX13_shareDeed (some 289) (a 0) (a 1) (a 2) (a 3) h = o; cases o <;> rfl
  · rw [rF_4, show nI 4 = 4 from rfl]
    simp only [fX13_does, show ¬ ((4 : Int32) = 0) by decide, show ¬ ((4 : Int32) = 1) by decide, show ¬ ((4 : Int32) = 2) by decide, show ¬ ((4 : Int32) = 3) by decide, show ¬ ((4 : Int32) = 5) by decide, show ¬ ((4 : Int32) = 6) by decide, show ¬ ((4 : Int32) = 7) by decide, show ¬ ((4 : Int32) = 8) by decide, show ¬ ((4 : Int32) = 9) by decide, show ¬ ((4 : Int32) = 10) by decide, show ¬ ((4 : Int32) = 11) by decide, show ¬ ((4 : Int32) = 12) by decide, if_false, if_true, dnB_eval, v_289 hs, h0 (by decide), h1 (by decide), h2 (by decide), h3 (by decide), h4 (by decide), dnP]
    generalize fX13_cutDeed (some 289) (a 0) (a 1) (a 2) (a 3) (a 4) h = o; cases o <;> rfl
  · rw [rF_5, show nI 5 = 5 from rfl]
    simp only [fX13_does, show ¬ ((5 : Int32) = 0) by decide, show ¬ ((5 : Int32) = 1) by decide, show ¬ ((5 : Int32) = 2) by decide, show ¬ ((5 : Int32) = 3) by decide, show ¬ ((5 : Int32) = 4) by decide, show ¬ ((5 : Int32) = 6) by decide, show ¬ ((5 : Int32) = 7) by decide, show ¬ ((5 : Int32) = 8) by decide, show ¬ ((5 : Int32) = 9) by decide, show ¬ ((5 : Int32) = 10) by decide, show ¬ ((5 : Int32) = 11) by decide, show ¬ ((5 : Int32) = 12) by decide, if_false, if_true, dnB_eval, v_289 hs, h0 (by decide), h1 (by decide), h2 (by decide), dnP]
    generalize fX13_castDeed (some 289) (a 0) (a 1) (a 2) h = o; cases o <;> rfl
  · rw [rF_6, show nI 6 = 6 from rfl]
    simp only [fX13_does, show ¬ ((6 : Int32) = 0) by decide, show ¬ ((6 : Int32) = 1) by decide, show ¬ ((6 : Int32) = 2) by decide, show ¬ ((6 : Int32) = 3) by decide, show ¬ ((6 : Int32) = 4) by decide, show ¬ ((6 : Int32) = 5) by decide, show ¬ ((6 : Int32) = 7) by decide, show ¬ ((6 : Int32) = 8) by decide, show ¬ ((6 : Int32) = 9) by decide, show ¬ ((6 : Int32) = 10) by decide, show ¬ ((6 : Int32) = 11) by decide, show ¬ ((6 : Int32) = 12) by decide, if_false, if_true, dnB_eval, v_289 hs, h0 (by decide), h1 (by decide), h2 (by decide), dnP]
    generalize fX13_joinDeed (some 289) (a 0) (a 1) (a 2) h = o; cases o <;> rfl
  · rw [rF_7, show nI 7 = 7 from rfl]
    simp only [fX13_does, show ¬ ((7 : Int32) = 0) by decide, show ¬ ((7 : Int32) = 1) by decide, show ¬ ((7 : Int32) = 2) by decide, show ¬ ((7 : Int32) = 3) by decide, show ¬ ((7 : Int32) = 4) by decide, show ¬ ((7 : Int32) = 5) by decide, show ¬ ((7 : Int32) = 6) by decide, show ¬ ((7 : Int32) = 8) by decide, show ¬ ((7 : Int32) = 9) by decide, show ¬ ((7 : Int32) = 10) by decide, show ¬ ((7 : Int32) = 11) by decide, show ¬ ((7 : Int32) = 12) by decide, if_false, if_true, dnB_eval, v_289 hs, h0 (by decide), h1 (by decide), dnP]
    generalize fX13_flipDeed (some 289) (a 0) (a 1) h = o; cases o <;> rfl
  · rw [rF_8, show nI 8 = 8 from rfl]
    simp only [fX13_does, show ¬ ((8 : Int32) = 0) by decide, show ¬ ((8 : Int32) = 1) by decide, show ¬ ((8 : Int32) = 2) by decide, show ¬ ((8 : Int32) = 3) by decide, show ¬ ((8 : Int32) = 4) by decide, show ¬ ((8 : Int32) = 5) by decide, show ¬ ((8 : Int32) = 6) by decide, show ¬ ((8 : Int32) = 7) by decide, show ¬ ((8 : Int32) = 9) by decide, show ¬ ((8 : Int32) = 10) by decide, show ¬ ((8 : Int32) = 11) by decide, show ¬ ((8 : Int32) = 12) by decide, if_false, if_true, dnB_eval, v_289 hs, h0 (by decide), h1 (by decide), h2 (by decide), dnP]
    generalize fX13_rollDeed (some 289) (a 0) (a 1) (a 2) h = o; cases o <;> rfl
  · rw [rF_9, show nI 9 = 9 from rfl]
    simp only [fX13_does, show ¬ ((9 : Int32) = 0) by decide, show ¬ ((9 : Int32) = 1) by decide, show ¬ ((9 : Int32) = 2) by decide, show ¬ ((9 : Int32) = 3) by decide, show ¬ ((9 : Int32) = 4) by decide, show ¬ ((9 : Int32) = 5) by decide, show ¬ ((9 : Int32) = 6) by decide, show ¬ ((9 : Int32) = 7) by decide, show ¬ ((9 : Int32) = 8) by decide, show ¬ ((9 : Int32) = 10) by decide, show ¬ ((9 : Int32) = 11) by decide, show ¬ ((9 : Int32) = 12) by decide, if_false, if_true, dnB_eval, v_289 hs, h0 (by decide), h1 (by decide), dnP]
    generalize fX13_orderDeed (some 289) (a 0) (a 1) h = o; cases o <;> rfl
  · rw [rF_10, show nI 10 = 10 from rfl]
    simp only [fX13_does, show ¬ ((10 : Int32) = 0) by decide, show ¬ ((10 : Int32) = 1) by decide, show ¬ ((10 : Int32) = 2) by decide, show ¬ ((10 : Int32) = 3) by decide, show ¬ ((10 : Int32) = 4) by decide, show ¬ ((10 : Int32) = 5) by decide, show ¬ ((10 : Int32) = 6) by decide, show ¬ ((10 : Int32) = 7) by decide, show ¬ ((10 : Int32) = 8) by decide, show ¬ ((10 : Int32) = 9) by decide, show ¬ ((10 : Int32) = 11) by decide, show ¬ ((10 : Int32) = 12) by decide, if_false, if_true, dnB_eval, v_289 hs, h0 (by decide), h1 (by decide), h2 (by decide), h3 (by decide), dnP]
    generalize fX13_addDeed (some 289) (a 0) (a 1) (a 2) (a 3) h = o; cases o <;> rfl
  · rw [rF_11, show nI 11 = 11 from rfl]
    simp only [fX13_does, show ¬ ((11 : Int32) = 0) by decide, show ¬ ((11 : Int32) = 1) by decide, show ¬ ((11 : Int32) = 2) by decide, show ¬ ((11 : Int32) = 3) by decide, show ¬ ((11 : Int32) = 4) by decide, show ¬ ((11 : Int32) = 5) by decide, show ¬ ((11 : Int32) = 6) by decide, show ¬ ((11 : Int32) = 7) by decide, show ¬ ((11 : Int32) = 8) by decide, show ¬ ((11 : Int32) = 9) by decide, show ¬ ((11 : Int32) = 10) by decide, show ¬ ((11 : Int32) = 12) by decide, if_false, if_true, dnB_eval, v_289 hs, h0 (by decide), h1 (by decide), h2 (by decide), dnP]
    generalize fX13_flatDeed (some 289) (a 0) (a 1) (a 2) h = o; cases o <;> rfl
  · rw [rF_12, show nI 12 = 12 from rfl]
    simp only [fX13_does, show ¬ ((12 : Int32) = 0) by decide, show ¬ ((12 : Int32) = 1) by decide, show ¬ ((12 : Int32) = 2) by decide, show ¬ ((12 : Int32) = 3) by decide, show ¬ ((12 : Int32) = 4) by decide, show ¬ ((12 : Int32) = 5) by decide, show ¬ ((12 : Int32) = 6) by decide, show ¬ ((12 : Int32) = 7) by decide, show ¬ ((12 : Int32) = 8) by decide, show ¬ ((12 : Int32) = 9) by decide, show ¬ ((12 : Int32) = 10) by decide, show ¬ ((12 : Int32) = 11) by decide, if_false, if_true, dnB_eval, v_289 hs, h0 (by decide), h1 (by decide), h2 (by decide), h3 (by decide), dnP]
    generalize fX13_dealDeed (some 289) (a 0) (a 1) (a 2) (a 3) h = o; cases o <;> rfl
  · rw [rF_13, show nI 13 = 13 from rfl]
    simp only [fX13_does, show ¬ ((13 : Int32) = 0) by decide, show ¬ ((13 : Int32) = 1) by decide, show ¬ ((13 : Int32) = 2) by decide, show ¬ ((13 : Int32) = 3) by decide, show ¬ ((13 : Int32) = 4) by decide, show ¬ ((13 : Int32) = 5) by decide, show ¬ ((13 : Int32) = 6) by decide, show ¬ ((13 : Int32) = 7) by decide, show ¬ ((13 : Int32) = 8) by decide, show ¬ ((13 : Int32) = 9) by decide, show ¬ ((13 : Int32) = 10) by decide, show ¬ ((13 : Int32) = 11) by decide, show ¬ ((13 : Int32) = 12) by decide, if_false, if_true, dnB_eval, v_289 hs, h0 (by decide), h1 (by decide), dnP]
    generalize fX13_turnDeed (some 289) (a 0) (a 1) h = o; cases o <;> rfl
theorem rs_ends {h0 h : dnH} {Y : List Nat} {A : Ab} (c : RS h0 Y h A) : RS h0 [] (flI h 295 32 0) A := by
  have e : Eqc (fun x => x ≠ 295) h (flI h 295 32 0) := eqc_flI (fun hc => hc rfl)
  obtain ⟨c1, c2, c3, c4, c5, c6, c7⟩ := c
  refine ⟨e.sh c1, c2.tr (e.im (fun x hx => by unfold Pr at hx; omega)), fun r hr => ?_, ?_, ?_, ?_, ?_⟩
  · rw [flI_at hr]; rfl
  · rw [vR_go e (fun x h1 h2 h3 => h3)]
    exact c4.sub (fun _ hm => by cases hm)
  · rw [(e.2.2 289 (by decide)).1, (e.2.2 289 (by decide)).2.1]; exact c5
  · rw [(e.2.2 289 (by decide)).1]; exact c6
  · rw [(e.2.2 289 (by decide)).1]; exact c7
theorem cs_base {h0 h h2 : dnH} {S : Nat → Int32} {X : List Nat} {A : Ab} (c : CS h0 S X h A) (e : Eqc (fun x => x ≤ 128 ∨ x = 258) h h2) : CS h2 S X h2 A := by
  obtain ⟨c1, c2, c3, c4, c5, c6⟩ := c
  obtain ⟨g1, g2, g3⟩ := vS_go (s := 1) e (fun x h1 h2 => by omega)
  refine ⟨e.sh c1, Eqc.rf, fun r hr => ?_, fun p hp => ?_, ⟨fun g hg => ?_, fun k hk => ?_, fun n hn hl => ?_⟩, ?_⟩
  · rw [(e.2.2 (5 + 4 * r) (by omega)).1]; exact c3 r hr
  · rw [(e.2.2 3 (by omega)).1]; exact c4 p hp
  · rw [g1]; exact c5.1 g hg
  · rw [g2]; exact c5.2.1 k hk
  · obtain ⟨a1, a2, a3⟩ := c5.2.2 n hn hl
    obtain ⟨t1, t2, t3, t4, t5⟩ := g3 n hn
    exact ⟨t1.trans a1, t2.trans a2, fun i hi => by rw [t3, t4, t5]; exact a3 i hi⟩
  · rw [(e.2.2 258 (by omega)).1, (e.2.2 258 (by omega)).2.1]; exact c6
theorem rs_base {h0 h h2 : dnH} {X : List Nat} {A : Ab} (c : RS h0 X h A) (e : Eqc (fun x => 291 ≤ x ∧ x ≤ 298) h h2) (n1 : h2.2.2.1 289 1 = h.2.2.1 289 1) (n2 : h2.2.1 289 2 = h.2.1 289 2) (n3 : h2.2.1 289 3 = h.2.1 289 3) : RS h2 X h2 A := by
  obtain ⟨c1, c2, c3, c4, c5, c6, c7⟩ := c
  refine ⟨e.sh c1, Eqc.rf, fun r hr => ?_, ?_, ?_, rfl, rfl⟩
  · rw [(e.2.2 295 (by decide)).1]; exact c3 r hr
  · rw [vR_go e (fun x h1 h2 _ => ⟨h1, h2⟩)]; exact c4
  · rw [n1, n2, n3]; exact c5
theorem plan_close {B B2 : Nat} {h gc gr : dnH} {v : Int32} (a : Rel B h) (hB : B ≤ B2) (hc : Eqc (fun x => x = 257 ∨ (281 ≤ x ∧ x ≠ 283 ∧ x ≠ 284 ∧ x ≠ 288)) h gc) (hr : Eqc (fun x => x ≤ 288 ∨ x = 290 ∨ x = 316 ∨ 319 ≤ x) gc gr) (h308 : ∀ j, j < 2 → gr.2.1 308 j = gc.2.1 308 j) (hvk : ∀ j, j < 2 → VwE (vK gc j) (vK gr j)) (h37 : gr.2.1 289 37 = gc.2.1 289 37) (h43 : gr.2.1 289 43 = gc.2.1 289 43) (hst : stRel B2 (vS gc 1) (vR gr)) (hnum : ∀ r, r < 31 → gc.2.1 (5 + 4 * r) 0 = nI r) (hsp : ∀ p, p < 6 → gc.2.1 3 (24 + p) = -14) (hnt : gc.2.2.1 258 0 = gr.2.2.1 289 1 ∧ gc.2.1 258 1 = gr.2.1 289 2 ∧ gc.2.1 258 2 = gr.2.1 289 3) (hrf : ∀ i, i < 11 → gc.2.1 288 i = (cnt gr 290 v).2.1 290 i) : Rel B2 (flI (cnt gr 290 v) 295 32 0) := by
  obtain ⟨a1, a2, a3, a4, a5, a6, a7, a8, a9, b1, b2, b3, b4⟩ := a
  have en : Eqc (fun x => x ≠ 290) gr (cnt gr 290 v) := eqc_cnt (fun hc => hc rfl)
  have ef : Eqc (fun x => x ≠ 295) (cnt gr 290 v) (flI (cnt gr 290 v) 295 32 0) := eqc_flI (fun hc => hc rfl)
  have e3 : Eqc (fun x => x ≠ 290 ∧ x ≠ 295) gr (flI (cnt gr 290 v) 295 32 0) := (en.im (fun _ hx => hx.1)).tr (ef.im (fun _ hx => hx.2))
  have e5 : Eqc (fun x => x ≤ 288) gc (flI (cnt gr 290 v) 295 32 0) := (hr.im (fun x hx => by omega)).tr (e3.im (fun x hx => by omega))
  have e4 : Eqc (fun x => (281 ≤ x ∧ x ≤ 287 ∧ x ≠ 283 ∧ x ≠ 284) ∨ x = 316 ∨ 319 ≤ x ∨ x = 257) h (flI (cnt gr 290 v) 295 32 0) := ((hc.im (fun x hx => by omega)).tr (hr.im (fun x hx => by omega))).tr (e3.im (fun x hx => by omega))
  have r9 : (flI (cnt gr 290 v) 295 32 0).2.1 289 = gr.2.1 289 := (e3.2.2 289 (by decide)).1
  have l9 : (flI (cnt gr 290 v) 295 32 0).2.2.1 289 = gr.2.2.1 289 := (e3.2.2 289 (by decide)).2.1
  have c9 : gc.2.1 289 = h.2.1 289 := (hc.2.2 289 (by decide)).1
  have im : ∀ j, j < 2 → imRel B2 (flI (cnt gr 290 v) 295 32 0) j := fun j hj => by
    have q : imRel B h j := by
      rcases (by omega : j = 0 ∨ j = 1) with rfl | rfl
      · exact b2
      · exact b3
    have v1 : vK gc j = vK h j := by
      unfold vK
      rw [(hc.2.2 309 (by decide)).1, (hc.2.2 310 (by decide)).1, (hc.2.2 311 (by decide)).1, (hc.2.2 312 (by decide)).1, (hc.2.2 313 (by decide)).1, (hc.2.2 314 (by decide)).2.1, (hc.2.2 315 (by decide)).2.2]
    have v2 : vK (flI (cnt gr 290 v) 295 32 0) j = vK gr j := by
      unfold vK
      rw [(e3.2.2 309 (by decide)).1, (e3.2.2 310 (by decide)).1, (e3.2.2 311 (by decide)).1, (e3.2.2 312 (by decide)).1, (e3.2.2 313 (by decide)).1, (e3.2.2 314 (by decide)).2.1, (e3.2.2 315 (by decide)).2.2]
    refine (im_go q e4.xt (by rw [e4.2.1]) ?_ ?_ (fun s _ h3 _ x h5 h6 => by show _ ∨ _ ∨ 319 ≤ x ∨ _; omega)).mono hB
    · rw [(e3.2.2 308 (by decide)).1, h308 j hj, (hc.2.2 308 (by decide)).1]
    · rw [v2, ← v1]
      exact hvk j hj
  refine ⟨e4.sh a1, by rw [e4.1]; exact a2, fun r hr => ?_, fun p hp => ?_, fun r hr => flI_at hr, ?_, ?_, ?_, ?_, ?_, im 0 (by decide), im 1 (by decide), b4.go e4⟩
  · rw [(e5.2.2 _ (by omega)).1]; exact hnum r hr
  · rw [(e5.2.2 3 (by decide)).1]; exact hsp p hp
  · rw [vR_go e3 (fun x h1 h2 h3 => ⟨by omega, h3⟩)]
    exact stRel_goC e5 (fun x h1 h2 => by omega) hst
  · unfold ntRel
    rw [r9, l9, (e5.2.2 258 (by decide)).1, (e5.2.2 258 (by decide)).2.1]
    exact hnt
  · intro i hi
    rw [(e5.2.2 288 (by decide)).1, (ef.2.2 290 (by decide)).1]
    exact hrf i hi
  · unfold txRel
    rw [r9, h37, c9, (e4.2.2 281 (by decide)).1, (e4.2.2 282 (by decide)).1, (e4.2.2 316 (by decide)).1]
    exact a9
  · unfold gsRel
    rw [r9, h43, c9, (e4.2.2 285 (by decide)).1, (e4.2.2 286 (by decide)).1, (e4.2.2 287 (by decide)).1, (e4.2.2 319 (by decide)).1, (e4.2.2 320 (by decide)).1]
    exact b1
