/-! PURE 17: size, holds -/
/-- one call of both: one answer, and the states agree again -/
def Call {α : Type} (B B2 : Nat) (F G : dnM α) : Prop := ∀ h, Rel B h → ∃ v h1 h2, F h = some (v, h1) ∧ G h1 = some (v, h2) ∧ Rel B2 h2
theorem cntI {h : dnH} {a b : Nat} {v : Int32} (hb : b ≠ a) : (cnt h a v).2.1 b = h.2.1 b := ((eqc_cnt (P := fun x => x ≠ a) (fun hc => hc rfl)).2.2 b hb).1
theorem cntSh {h : dnH} {a : Nat} {v : Int32} (hh : Sh h) : Sh (cnt h a v) := (eqc_cnt (P := fun x => x ≠ a) (fun hc => hc rfl)).sh hh
/-- a call that changes nothing: its answer, and what is counted -/
theorem call_ro {B : Nat} {F G f g : dnM Int32} (hF : ∀ h v, Sh h → f h = some (v, h) → F h = some (v, cnt h 288 v)) (hG : ∀ h v, Sh h → g h = some (v, h) → G h = some (v, flI (cnt h 290 v) 295 32 0))
    (k : ∀ h, Rel B h → ∃ v, f h = some (v, h) ∧ g (cnt h 288 v) = some (v, cnt h 288 v)) : Call B B F G := by
  intro h a
  obtain ⟨v, k1, k2⟩ := k h a
  refine ⟨v, cnt h 288 v, _, ?_, ?_, close0 a v⟩
  · exact hF h v a.1 k1
  · exact hG _ v (cntSh a.1) k2
theorem call_size (B : Nat) (g p : Int32) : Call B B (fX12_size (some 0) g p) (fX13_size (some 289) g p) := by
  refine call_ro (f := fX9_lengthOf (some 1) g p) (g := fX13_sizeAnswer (some 289) g p) (fun h v hh e => ?_) (fun h v hh e => ?_) (fun h a => ?_)
  · simp only [fX12_size, dnB_eval, g_0_0 hh, sv (st1 hh), e, v_0 hh, tally_c hh, dnP]
  · simp only [fX13_size, dnB_eval, v_289 hh, e, said_r hh, dnP]
  · have hh := a.1
    rcases look a g p with hb | ⟨G, hG, rfl, hp, hq, hc⟩
    · refine ⟨-1, ?_, ?_⟩
      · simp only [fX9_lengthOf, dnB_eval, sv (st1 hh), rowAt_bad hh hb, rowFault_bad hh hb, Option.elim, dnP]
      · simp only [fX13_sizeAnswer, dnB_eval, r_isGrid, hb, dnP, Bool.false_eq_true, if_false]
    · have hs : ∀ {v : Int32}, Sh (cnt h 288 v) := fun {v} => cntSh hh
      rcases hc with hc | ⟨m, q, hm, hqm, hx, rfl, hc⟩
      · refine ⟨pf (h.2.1 2 G) p, ?_, ?_⟩
        · simp only [fX9_lengthOf, dnB_eval, sv (st1 hh), rowAt_out hh hG hc, rowFault_out hh hG hc, Option.elim, dnP]
        · have e : (cnt h 288 (pf (h.2.1 2 G) p)).2.1 291 G = h.2.1 2 G := by rw [cntI (by decide), hq]
          have hf := rowFault_rOut (hs (v := pf (h.2.1 2 G) p)) hG (by rw [e]; exact hp) (p := p) (by rw [e]; exact hc)
          rw [e] at hf
          simp only [fX13_sizeAnswer, dnB_eval, r_isGrid, inB_grid hG, dnP, if_true, v_289 hs, hf, hc, if_false]
      · have e : ∀ v, (cnt h 288 v).2.1 291 G = nI m := fun v => by rw [cntI (by decide), hq, hx]
        rcases hc with ⟨hc, hr⟩ | ⟨r, hr, c1, c2, kd, ln, w1, w2, w3, w4, w5, w6, w7⟩
        · refine ⟨if h.2.1 3 (6 * G + q) = -14 then -4 else -5, ?_, ?_⟩
          · simp only [fX9_lengthOf, dnB_eval, sv (st1 hh), rowAt_no hh hG hm hx hqm hc, rowFault_in hh hG hm hx hqm, Option.elim, dnP]
          · have hf := rowFault_rIn (hs (v := if h.2.1 3 (6 * G + q) = -14 then -4 else -5)) hG hm (e _) hqm
            rw [cntI (by decide), hR_rf hr hc] at hf
            have hn : ¬ (if h.2.1 3 (6 * G + q) = -14 then (-4 : Int32) else -5) = 0 := by split <;> decide
            simp only [fX13_sizeAnswer, dnB_eval, r_isGrid, inB_grid hG, dnP, if_true, v_289 hs, hf, hn, if_false]
        · refine ⟨nI ln, ?_, ?_⟩
          · have w4' : h.2.1 (5 + 4 * r) 2 = nI ln := w4
            simp only [fX9_lengthOf, dnB_eval, sv (st1 hh), rowAt_yes hh hG hm hx hqm hr c1, Option.elim, rg_i (row1 hh hr), w4', dnP]
          · have hf := rowFault_rIn (hs (v := nI ln)) hG hm (e _) hqm
            have hl := held_r (hs (v := nI ln)) hG (show q < 6 by omega)
            rw [cntI (by decide), c2] at hf hl
            have hz : rfR (nI r) = 0 := (by decide +kernel : ∀ r, r < 31 → rfR (nI r) = 0) r hr
            have w6' : h.2.1 294 r = nI ln := w6
            simp only [fX13_sizeAnswer, dnB_eval, r_isGrid, inB_grid hG, dnP, if_true, v_289 hs, hf, hz, g_289_7 hs, hl, a_294 hs, dnIn_nI (show r < 32 by omega) (by decide), nI_clamp (show r < 2 ^ 31 by omega), cntI (show 294 ≠ 288 by decide), w6']
