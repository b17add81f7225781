/-! PURE 18: holds; what is told -/
theorem call_holds (B : Nat) (g p : Int32) : Call B B (fX12_holds (some 0) g p) (fX13_holds (some 289) g p) := by
  refine call_ro (f := fX9_contentOf (some 1) g p) (g := fX13_holdsAnswer (some 289) g p) (fun h v hh e => ?_) (fun h v hh e => ?_) (fun h a => ?_)
  · simp only [fX12_holds, dnB_eval, g_0_0 hh, sv (st1 hh), e, v_0 hh, tally_c hh, dnP]
  · simp only [fX13_holds, dnB_eval, v_289 hh, e, said_r hh, dnP]
  · have hh := a.1
    rcases look a g p with hb | ⟨G, hG, rfl, hp, hq, hc⟩
    · refine ⟨-1, ?_, ?_⟩
      · simp only [fX9_contentOf, dnB_eval, sv (st1 hh), placeFault_bad hh hb, show ¬ (0 : Int32) ≤ -1 by decide, if_false, dnP]
      · simp only [fX13_holdsAnswer, dnB_eval, r_isGrid, hb, dnP, Bool.false_eq_true, if_false]
    · have hs : ∀ {v : Int32}, Sh (cnt h 288 v) := fun {v} => cntSh hh
      rcases hc with hc | ⟨m, q, hm, hqm, hx, rfl, hc⟩
      · refine ⟨pf (h.2.1 2 G) p, ?_, ?_⟩
        · have hn : ¬ 0 ≤ pf (h.2.1 2 G) p := by
            unfold pf at hc ⊢
            by_cases c : h.2.1 2 G < 0
            · rw [if_pos c]; decide
            · rw [if_neg c] at hc ⊢
              by_cases c2 : (0 ≤ p ∧ p < h.2.1 2 G)
              · rw [if_pos c2] at hc
                exact absurd rfl hc
              · rw [if_neg c2]; decide
          simp only [fX9_contentOf, dnB_eval, sv (st1 hh), placeFault_c hh hG, hn, if_false, dnP]
        · have e : (cnt h 288 (pf (h.2.1 2 G) p)).2.1 291 G = h.2.1 2 G := by rw [cntI (by decide), hq]
          have hf := placeFault_r (hs (v := pf (h.2.1 2 G) p)) hG (by rw [e]; exact hp) p
          rw [e] at hf
          simp only [fX13_holdsAnswer, dnB_eval, r_isGrid, inB_grid hG, dnP, if_true, v_289 hs, hf, hc, if_false]
      · have e : ∀ v, (cnt h 288 v).2.1 291 G = nI m := fun v => by rw [cntI (by decide), hq, hx]
        have hpf : pf (h.2.1 2 G) (nI q) = 0 := by rw [hx]; exact pf_nI hm hqm
        have e1 := dnIn_nI (show 6 * G + q < 30 by omega) (by decide)
        have e2 : (nI (6 * G + q)).toNatClampNeg = 6 * G + q := nI_clamp (by omega)
        have hpr : ∀ v, fX13_placeFault (some 289) (nI G) (nI q) (cnt h 288 v) = some (0, cnt h 288 v) := fun v => by
          rw [placeFault_r hs hG (by rw [e]; exact .inr ⟨m, hm, rfl⟩), e, pf_nI hm hqm]
        have hl : ∀ v, fX13_held (some 289) (nI G) (nI q) (cnt h 288 v) = some (h.2.1 292 (6 * G + q), cnt h 288 v) := fun v => by
          rw [held_r hs hG (show q < 6 by omega), cntI (by decide)]
        rcases hc with ⟨hc, hr⟩ | ⟨r, hr, c1, c2, kd, ln, w1, w2, w3, w4, w5, w6, w7⟩
        · refine ⟨-(h.2.1 3 (6 * G + q)), ?_, ?_⟩
          · simp only [fX9_contentOf, dnB_eval, sv (st1 hh), placeFault_c hh hG, hpf, show (0 : Int32) ≤ 0 by decide, if_true, rowAt_no hh hG hm hx hqm hc, Option.elim, sg_1 (st1 hh), at_c6, sa_2 (st1 hh), e1, e2, dnP]
          · simp only [fX13_holdsAnswer, fX13_holdsOf, dnB_eval, r_isGrid, inB_grid hG, dnP, if_true, v_289 hs, hpr, hl]
            rcases hr with ⟨x1, x2⟩ | ⟨x1, x2⟩ | ⟨x1, x2⟩ | ⟨r, hr, x1, x2⟩
            · rw [x1, x2]; rfl
            · rw [x1, x2]; rfl
            · rw [x1, x2]; rfl
            · rw [x2] at hc
              exact absurd hc (nI_pos (by omega))
        · refine ⟨nI kd, ?_, ?_⟩
          · have w3' : h.2.1 (5 + 4 * r) 1 = nI kd := w3
            simp only [fX9_contentOf, dnB_eval, sv (st1 hh), placeFault_c hh hG, hpf, show (0 : Int32) ≤ 0 by decide, if_true, rowAt_yes hh hG hm hx hqm hr c1, Option.elim, rg_i (row1 hh hr), w3', dnP]
          · have w5' : h.2.1 293 r = nI kd := w5
            have hn : ¬ nI r < 0 := nI_pos (by omega)
            simp only [fX13_holdsAnswer, fX13_holdsOf, dnB_eval, r_isGrid, inB_grid hG, dnP, if_true, v_289 hs, hpr, hl, c2, hn, if_false, g_289_6 hs, a_293 hs, dnIn_nI (show r < 32 by omega) (by decide), nI_clamp (show r < 2 ^ 31 by omega), cntI (show 293 ≠ 288 by decide), w5']
theorem call_told (B : Nat) : Call B B (fX12_told (some 0)) (fX13_told (some 289)) := fun h a => by
  refine ⟨h.2.2.1 258 0, h, h, ?_, ?_, a⟩
  · simp only [fX12_told, dnB_eval, g_0_3 a.1, g_258_0 a.1, dnP]
  · rw [a.2.2.2.2.2.2.1.1]
    simp only [fX13_told, dnB_eval, g_289_1 a.1, dnP]
theorem call_first (B : Nat) : Call B B (fX12_first (some 0)) (fX13_first (some 289)) := fun h a => by
  refine ⟨h.2.1 258 1, h, h, ?_, ?_, a⟩
  · simp only [fX12_first, dnB_eval, g_0_3 a.1, g_258_1 a.1, dnP]
  · rw [a.2.2.2.2.2.2.1.2.1]
    simp only [fX13_first, dnB_eval, g_289_2 a.1, dnP]
theorem call_passed (B : Nat) : Call B B (fX12_passed (some 0)) (fX13_passed (some 289)) := fun h a => by
  refine ⟨h.2.1 258 2, h, h, ?_, ?_, a⟩
  · simp only [fX12_passed, dnB_eval, g_0_3 a.1, g_258_2 a.1, dnP]
  · rw [a.2.2.2.2.2.2.1.2.2]
    simp only [fX13_passed, dnB_eval, g_289_3 a.1, dnP]
