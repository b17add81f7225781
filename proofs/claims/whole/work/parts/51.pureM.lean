/-! PURE 22: type, sees -/
theorem rfd_nI {n : Nat} (hn : n < 2 ^ 31) : rfd (nI n) = false := by
  refine decide_eq_false (fun h => ?_)
  have := Int32.le_iff_toInt_le.mp h.2.1
  rw [nI_toInt hn, show (-1 : Int32).toInt = -1 by decide] at this
  omega
theorem cnt_nI {h : dnH} {a n : Nat} (hn : n < 2 ^ 31) : cnt h a (nI n) = h := if_neg (by rw [rfd_nI hn]; decide)
theorem call_type (B : Nat) (p : Int32) : Call B B (fX12_type (some 0) p) (fX13_type (some 289) p) := fun h a => by
  have hh := a.1
  have hs : ∀ {v : Int32}, Sh (cnt h 288 v) := fun {v} => cntSh hh
  obtain ⟨n, hn, t1, t2, t3⟩ := a.2.2.2.2.2.2.2.2.1
  cases hp : inB p 0 255
  · refine ⟨-1, cnt h 288 (-1), _, ?_, ?_, close0 a (-1)⟩
    · have h1 : ¬ (0 ≤ p ∧ p ≤ 255) := of_decide_eq_false hp
      have : fX3_append (some 281) p h = some (-1, h) := by
        unfold fX3_append
        by_cases c : p < 0
        · rw [if_pos c]; rfl
        · rw [if_neg c, if_neg (fun hc => h1 ⟨Int32.not_lt.mp c, hc⟩)]; rfl
      simp only [fX12_type, dnB_eval, g_0_9 hh, v_281 hh, this, v_0 hh, tally_c hh, dnP]
    · simp only [fX13_type, dnB_eval, r_in, hp, Bool.false_eq_true, if_false, v_289 hs, said_r hs, dnP]
  · obtain ⟨x, hx, rfl⟩ := inB_of (n := 255) (by decide) hp
    have p0 : ¬ nI x < 0 := nI_pos (by omega)
    have p255 : nI x ≤ 255 := (of_decide_eq_true hp).2
    by_cases c80 : n = 80
    · subst c80
      refine ⟨-10, cnt h 288 (-10), _, ?_, ?_, close0 a (-10)⟩
      · have : fX3_append (some 281) (nI x) h = some (-10, h) := by
          simp only [fX3_append, p0, p255, if_true, if_false, dnB_eval, g_281_1 hh, t1, show ¬ (¬ nI 80 = 80) from by decide, dnP]
        simp only [fX12_type, dnB_eval, g_0_9 hh, v_281 hh, this, v_0 hh, tally_c hh, dnP]
      · have t2' : (cnt h 288 (-10)).2.1 289 37 = nI 80 := by rw [cntI (by decide), t2]
        simp only [fX13_type, dnB_eval, r_in, hp, if_true, g_289_37 hs, t2', show ¬ (¬ nI 80 = 80) from by decide, if_false, v_289 hs, said_r hs, dnP]
    · have n80 : ¬ nI n = 80 := fun hc => c80 ((nI_eq (b := 80) (by omega) (by decide)).mp hc)
      have e1 := dnIn_nI (show n < 80 by omega) (by decide)
      have e2 : (nI n).toNatClampNeg = n := nI_clamp (by omega)
      have hnar : vp_nar .char (((nI x).toUInt32 % 65536).toInt32) = nI x := (by decide +kernel : ∀ x, x < 256 → vp_nar .char (((nI x).toUInt32 % 65536).toInt32) = nI x) x (by omega)
      refine ⟨nI (n + 1), dnSI (dnSI h 282 n (nI x)) 281 1 (nI (n + 1)), dnSI (dnSI (dnSI (dnSI h 282 n (nI x)) 281 1 (nI (n + 1))) 316 n (nI x)) 289 37 (nI (n + 1)), ?_, ?_, ?_⟩
      · have h1 : Sh (dnSI h 282 n (nI x)) := hh
        have h2 : Sh (dnSI (dnSI h 282 n (nI x)) 281 1 (nI (n + 1))) := hh
        have t1' : (dnSI h 282 n (nI x)).2.1 281 1 = nI n := by simp [dnSI, dnUp, t1]
        have t1'' : (dnSI (dnSI h 282 n (nI x)) 281 1 (nI (n + 1))).2.1 281 1 = nI (n + 1) := by simp [dnSI, dnUp]
        have : fX3_append (some 281) (nI x) h = some (nI (n + 1), dnSI (dnSI h 282 n (nI x)) 281 1 (nI (n + 1))) := by
          simp only [fX3_append, p0, p255, if_true, if_false, dnB_eval, g_281_1 hh, t1, n80, not_false_eq_true, g_281_0 hh, t_282 hh, e1, e2, hnar, g_281_1 h1, t1', nI_1, p_281_1 h1, g_281_1 h2, t1'', dnP]
        simp only [fX12_type, dnB_eval, g_0_9 hh, v_281 hh, this, v_0 h2, tally_c h2, cnt_nI (show n + 1 < 2 ^ 31 by omega), dnP]
      · have h2 : Sh (dnSI (dnSI h 282 n (nI x)) 281 1 (nI (n + 1))) := hh
        have h3 : Sh (dnSI (dnSI (dnSI h 282 n (nI x)) 281 1 (nI (n + 1))) 316 n (nI x)) := hh
        have h4 : Sh (dnSI (dnSI (dnSI (dnSI h 282 n (nI x)) 281 1 (nI (n + 1))) 316 n (nI x)) 289 37 (nI (n + 1))) := hh
        have t2' : (dnSI (dnSI h 282 n (nI x)) 281 1 (nI (n + 1))).2.1 289 37 = nI n := by simp [dnSI, dnUp, t2]
        have t2'' : (dnSI (dnSI (dnSI h 282 n (nI x)) 281 1 (nI (n + 1))) 316 n (nI x)).2.1 289 37 = nI n := by simp [dnSI, dnUp, t2]
        have t3' : (dnSI (dnSI (dnSI (dnSI h 282 n (nI x)) 281 1 (nI (n + 1))) 316 n (nI x)) 289 37 (nI (n + 1))).2.1 289 37 = nI (n + 1) := by simp [dnSI, dnUp]
        simp only [fX13_type, dnB_eval, r_in, hp, if_true, g_289_37 h2, t2', n80, not_false_eq_true, g_289_36 h2, t_316 h2, e1, e2, g_289_37 h3, t2'', nI_1, p_289_37 h3, g_289_37 h4, t3', dnP]
      · refine rel_tg a ((((eqc_SI (by unfold Pt; decide)).tr (eqc_SI (by unfold Pt; decide))).tr (eqc_SI (by unfold Pt; decide))).tr (eqc_SI (by unfold Pt; decide))) rfl ?_ ?_ ?_ ?_
        · simp [dnSI, dnUp]
        · simp [dnSI, dnUp]
        · refine ⟨n + 1, by omega, by simp [dnSI, dnUp], by simp [dnSI, dnUp], fun i hi => ?_⟩
          by_cases c : i = n
          · subst c
            exact ⟨x, by omega, by simp [dnSI, dnUp], by simp [dnSI, dnUp]⟩
          · obtain ⟨y, y1, y2, y3⟩ := t3 i (by omega)
            exact ⟨y, y1, by simp [dnSI, dnUp, c, y2], by simp [dnSI, dnUp, c, y3]⟩
        · obtain ⟨m, q1, q2, q3, q4⟩ := a.2.2.2.2.2.2.2.2.2.1
          exact ⟨m, q1, by simp [dnSI, dnUp, q2], by simp [dnSI, dnUp, q3], fun i hi => by simpa [dnSI, dnUp] using q4 i hi⟩
