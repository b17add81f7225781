/-! PURE 20: same, refusals -/
theorem call_same (B : Nat) (g p g2 p2 : Int32) : Call B B (fX12_same (some 0) g p g2 p2) (fX13_same (some 289) g p g2 p2) := by
  refine call_ro (f := fX9_holdSameRow (some 1) g p g2 p2) (g := fX13_sameAnswer (some 289) g p g2 p2) (fun h v hh e => ?_) (fun h v hh e => ?_) (fun h a => ?_)
  · simp only [fX12_same, dnB_eval, g_0_0 hh, sv (st1 hh), e, v_0 hh, tally_c hh, dnP]
  · simp only [fX13_same, dnB_eval, v_289 hh, e, said_r hh, dnP]
  · have hh := a.1
    have hs : ∀ {v : Int32}, Sh (cnt h 288 v) := fun {v} => cntSh hh
    cases hg : inB g 0 3
    · exact ⟨-1, by simp only [fX9_holdSameRow, dnB_eval, c_isGrid, hg, dnP, Bool.false_eq_true, if_false], by simp only [fX13_sameAnswer, dnB_eval, r_isGrid, hg, dnP, Bool.false_eq_true, if_false]⟩
    · cases hg2 : inB g2 0 3
      · exact ⟨-1, by simp only [fX9_holdSameRow, dnB_eval, c_isGrid, hg, hg2, dnP, if_true, Bool.false_eq_true, if_false], by simp only [fX13_sameAnswer, dnB_eval, r_isGrid, hg, hg2, dnP, if_true, Bool.false_eq_true, if_false]⟩
      · rcases lookRow a g p with ⟨f, f0, -, l1, l2, l3⟩ | ⟨G, q, m, r, hG, hq, hm, hr, rfl, rfl, hx, hc, -, w, l1, l2⟩
        · have fn : ¬ f = 0 := fun e => by rw [e] at f0; exact absurd f0 (by decide)
          refine ⟨f, ?_, ?_⟩
          · simp only [fX9_holdSameRow, dnB_eval, c_isGrid, hg, hg2, dnP, if_true, sv (st1 hh), l1, l2, Option.elim]
          · have l4 := l3 hg (cnt h 288 f) hs (cntI (by decide)) (cntI (by decide))
            simp only [fX13_sameAnswer, fX13_twoRows, dnB_eval, r_isGrid, hg, hg2, dnP, if_true, v_289 hs, l4, fn, if_false]
        · rcases lookRow a g2 p2 with ⟨f, f0, -, k1, k2, k3⟩ | ⟨G2, q2, m2, r2, hG2, hq2, hm2, hr2, rfl, rfl, hx2, hc2, -, w2, k1, k2⟩
          · have fn : ¬ f = 0 := fun e => by rw [e] at f0; exact absurd f0 (by decide)
            refine ⟨f, ?_, ?_⟩
            · simp only [fX9_holdSameRow, dnB_eval, c_isGrid, hg, hg2, dnP, if_true, sv (st1 hh), l1, k1, k2, Option.elim]
            · have l4 := l2 (cnt h 288 f) hs (cntI (by decide)) (cntI (by decide))
              have k4 := k3 hg2 (cnt h 288 f) hs (cntI (by decide)) (cntI (by decide))
              simp only [fX13_sameAnswer, fX13_twoRows, dnB_eval, r_isGrid, hg, hg2, dnP, if_true, v_289 hs, l4.1, k4, fn, if_false]
          · refine ⟨if r = r2 then 1 else 0, ?_, ?_⟩
            · have n1 := a.2.2.1 r hr
              have n2 := a.2.2.1 r2 hr2
              simp only [fX9_holdSameRow, dnB_eval, c_isGrid, hg, hg2, dnP, if_true, sv (st1 hh), l1, k1, Option.elim, rg_i (row1 hh hr), rg_i (row1 hh hr2), n1, n2, nI_eq (show r < 2 ^ 31 by omega) (show r2 < 2 ^ 31 by omega)]
              by_cases c : r = r2 <;> simp [c, dnP]
            · have l4 := l2 (cnt h 288 (if r = r2 then 1 else 0)) hs (cntI (by decide)) (cntI (by decide))
              have k4 := k2 (cnt h 288 (if r = r2 then 1 else 0)) hs (cntI (by decide)) (cntI (by decide))
              simp only [fX13_sameAnswer, fX13_twoRows, dnB_eval, r_isGrid, hg, hg2, dnP, if_true, v_289 hs, l4.1, l4.2, k4.1, k4.2, nI_eq (show r < 2 ^ 31 by omega) (show r2 < 2 ^ 31 by omega)]
              by_cases c : r = r2 <;> simp [c, dnP]
theorem rfd_or (v : Int32) : rfd v = (inB v (-8) (-1) || decide (v = -10)) := by
  unfold rfd inB
  rw [Bool.eq_iff_iff]
  simp only [Bool.or_eq_true, decide_eq_true_eq, Int32.le_iff_toInt_le, ← Int32.toInt_inj, Ne]
  have k1 : (-10 : Int32).toInt = -10 := by decide
  have k2 : (-1 : Int32).toInt = -1 := by decide
  have k3 : (-9 : Int32).toInt = -9 := by decide
  have k4 : (-8 : Int32).toInt = -8 := by decide
  rw [k1, k2, k3, k4]
  omega
theorem call_refusals (B : Nat) (v : Int32) : Call B B (fX12_refusals (some 0) v) (fX13_refusals (some 289) v) := fun h a => by
  have hh := a.1
  have hr := a.2.2.2.2.2.2.2.1
  refine ⟨if rfd v then h.2.1 288 (-v).toNatClampNeg else -1, h, h, ?_, ?_, a⟩
  · unfold fX12_refusals
    by_cases c : rfd v = true
    · obtain ⟨h1, h2, h3⟩ := of_decide_eq_true c
      obtain ⟨i1, -⟩ := rfd_in c
      rw [if_neg (Int32.not_lt.mpr h1), if_neg (Int32.not_lt.mpr h2), if_pos h3, if_pos c]
      simp only [dnB_eval, g_0_11 hh, a_288 hh, i1, if_true, dnP]
    · rw [if_neg c]
      by_cases c1 : v < -10
      · rw [if_pos c1]; rfl
      · rw [if_neg c1]
        by_cases c2 : -1 < v
        · rw [if_pos c2]; rfl
        · rw [if_neg c2]
          by_cases c3 : v = -9
          · rw [if_neg (Decidable.not_not.mpr c3)]; rfl
          · exact absurd (decide_eq_true ⟨Int32.not_lt.mp c1, Int32.not_lt.mp c2, c3⟩) c
  · have k16 : rfd v = true → fX13_refusals_j16 (some 289) v h = some (h.2.1 288 (-v).toNatClampNeg, h) := fun c => by
      obtain ⟨i1, i2⟩ := rfd_in c
      rw [hr _ i2]
      simp only [fX13_refusals_j16, dnB_eval, g_289_0 hh, a_290 hh, i1, if_true, dnP]
    unfold fX13_refusals
    rw [r_in, dnB_P]
    by_cases c : inB v (-8) (-1) = true
    · have cr : rfd v = true := by rw [rfd_or, c]; rfl
      rw [if_pos c, if_pos cr]
      exact k16 cr
    · rw [if_neg c]
      by_cases c2 : v = -10
      · have cr : rfd v = true := by rw [rfd_or]; simp [c2]
        rw [if_neg (Decidable.not_not.mpr c2), if_pos cr]
        exact k16 cr
      · rw [if_pos c2, if_neg (by rw [rfd_or]; simp [c, c2])]
        rfl
