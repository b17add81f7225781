/-! ABS 33: count, the whole -/
theorem present_c {h0 h : dnH} {S : Nat → Int32} {X : List Nat} {A : Ab} (c : CS h0 S X h A) : fX9_presentGrids (some 1) h = some (aI (fun g => decide (0 ≤ A.1 g)) 4, h) := by
  have key : dnIt 1000 (fX9_presentGrids_b4 (some 1)) (0, 0) h = some (aI (fun g => decide (0 ≤ A.1 g)) 4, h) := by
    refine dnIt_run (f := fX9_presentGrids_b4 (some 1)) (q := aI (fun g => decide (0 ≤ A.1 g)) 4) (hq := h) 4 1000 (fun g => ((aI (fun g => decide (0 ≤ A.1 g)) g, nI g), h)) (by decide) ?_ ?_
    · intro g hg
      have hc : ¬ ((4 : Int32) ≤ nI g) := fun hc => by have := (nI_leI (a := 4) (b := g) (by omega) (by omega)).mp hc; omega
      show _ = some (Sum.inl (aI (fun g => decide (0 ≤ A.1 g)) g + dnZ (decide (0 ≤ A.1 g)), nI (g + 1)), h)
      simp only [fX9_presentGrids_b4, fX9_presentGrids_j24, hc, if_false, dnB_eval, sg_0 (st1 c.1), plc_A c hg, dnP, nI_1]
      by_cases q : 0 ≤ A.1 g <;> simp [q, dnP]
    · simp only [fX9_presentGrids_b4, show (4 : Int32) ≤ nI 4 by decide, if_true, dnP]
  simp only [fX9_presentGrids, dnB_eval, key, dnP]
theorem present_r {h0 h : dnH} {X : List Nat} {A : Ab} (c : RS h0 X h A) : fX13_gridMany (some 289) h = some (aI (fun g => decide (0 ≤ A.1 g)) 4, h) := by
  have key : dnIt 1000 (fX13_gridMany_b4 (some 289)) (0, 0) h = some (aI (fun g => decide (0 ≤ A.1 g)) 4, h) := by
    refine dnIt_run (f := fX13_gridMany_b4 (some 289)) (q := aI (fun g => decide (0 ≤ A.1 g)) 4) (hq := h) 4 1000 (fun g => ((aI (fun g => decide (0 ≤ A.1 g)) g, nI g), h)) (by decide) ?_ ?_
    · intro g hg
      have hc : ¬ ((4 : Int32) ≤ nI g) := fun hc => by have := (nI_leI (a := 4) (b := g) (by omega) (by omega)).mp hc; omega
      show _ = some (Sum.inl (aI (fun g => decide (0 ≤ A.1 g)) g + dnZ (decide (0 ≤ A.1 g)), nI (g + 1)), h)
      simp only [fX13_gridMany_b4, fX13_gridMany_j24, hc, if_false, dnB_eval, g_289_4 c.1, plr_A c hg, dnP, nI_1]
      by_cases q : A.1 g < 0
      · rw [if_pos q, decide_eq_false (Int32.not_le.mpr q)]
        rfl
      · rw [if_neg q, decide_eq_true (Int32.not_lt.mp q)]
        rfl
    · simp only [fX13_gridMany_b4, show (4 : Int32) ≤ nI 4 by decide, if_true, dnP]
  simp only [fX13_gridMany, dnB_eval, key, dnP]
theorem ar_257 {h : dnH} (hs : Sh h) {i : Nat} (hi : i < 2) : dnAR (some 257) 105 (nI i) h = some (h.2.2.2.2 257 i, h) := by
  have e1 := dnIn_nI (show i < 2 by omega) (by decide)
  have e2 : (nI i).toNatClampNeg = i := nI_clamp (by omega)
  simp only [dnAR, k_257 hs, e1, e2, if_true]
theorem call_count (B : Nat) (p : Int32) : Call B B (fX12_count (some 0) p) (fX13_count (some 289) p) := by
  by_cases p8 : p = 8
  · subst p8
    intro h a
    obtain ⟨n, hn, t1, t2, t3⟩ := a.2.2.2.2.2.2.2.2.1
    refine ⟨nI n, h, h, ?_, ?_, a⟩
    · simp only [fX12_count, if_true, dnB_eval, g_0_9 a.1, g_281_1 a.1, t1, dnP]
    · simp only [fX13_count, show ¬ (8 : Int32) = 0 by decide, show ¬ (8 : Int32) = 1 by decide, show ¬ (8 : Int32) = 2 by decide, show ¬ (8 : Int32) = 3 by decide, show ¬ (8 : Int32) = 4 by decide, show ¬ (8 : Int32) = 5 by decide, show ¬ (8 : Int32) = 6 by decide, show ¬ (8 : Int32) = 7 by decide, if_false, if_true, dnB_eval, g_289_37 a.1, t2, dnP]
  by_cases p9 : p = 9
  · subst p9
    intro h a
    have im : ∀ k, k < 2 → imRel B h k := fun k hk => by
      rcases (by omega : k = 0 ∨ k = 1) with rfl | rfl
      · exact a.2.2.2.2.2.2.2.2.2.2.1
      · exact a.2.2.2.2.2.2.2.2.2.2.2.1
    have zi : ∀ k, k < 2 → h.2.1 308 k = dnZ (h.2.2.2.2 257 k).isSome := fun k hk => by
      rcases im k hk with ⟨e1, e2⟩ | ⟨s, -, -, e1, -, e2, -⟩
      · rw [e1, e2]; rfl
      · rw [e1, e2]; rfl
    refine ⟨aI (fun k => (h.2.2.2.2 257 k).isSome) 2, h, h, ?_, ?_, a⟩
    · have key : dnIt 1000 (fX12_keptImages_b4 (some 0)) (0, 0) h = some (aI (fun k => (h.2.2.2.2 257 k).isSome) 2, h) := by
        refine dnIt_run (f := fX12_keptImages_b4 (some 0)) (q := aI (fun k => (h.2.2.2.2 257 k).isSome) 2) (hq := h) 2 1000 (fun g => ((aI (fun k => (h.2.2.2.2 257 k).isSome) g, nI g), h)) (by decide) ?_ ?_
        · intro i hi
          have hc : ¬ ((2 : Int32) ≤ nI i) := fun hc => by have := (nI_leI (a := 2) (b := i) (by omega) (by omega)).mp hc; omega
          show _ = some (Sum.inl (aI (fun k => (h.2.2.2.2 257 k).isSome) i + dnZ (h.2.2.2.2 257 i).isSome, nI (i + 1)), h)
          simp only [fX12_keptImages_b4, fX12_keptImages_j24, hc, if_false, dnB_eval, g_0_2 a.1, ar_257 a.1 hi, dnP, nI_1]
          cases h.2.2.2.2 257 i <;> rfl
        · simp only [fX12_keptImages_b4, show (2 : Int32) ≤ nI 2 by decide, if_true, dnP]
      simp only [fX12_count, fX12_keptImages, show ¬ (9 : Int32) = 8 by decide, if_false, if_true, dnB_eval, v_0 a.1, key, dnP]
    · have z0 := zi 0 (by decide)
      have z1 := zi 1 (by decide)
      simp only [fX13_count, show ¬ (9 : Int32) = 0 by decide, show ¬ (9 : Int32) = 1 by decide, show ¬ (9 : Int32) = 2 by decide, show ¬ (9 : Int32) = 3 by decide, show ¬ (9 : Int32) = 4 by decide, show ¬ (9 : Int32) = 5 by decide, show ¬ (9 : Int32) = 6 by decide, show ¬ (9 : Int32) = 7 by decide, show ¬ (9 : Int32) = 8 by decide, if_false, if_true, dnB_eval, g_289_28 a.1, a_308 a.1, show dnIn 0 3 = true by decide, show dnIn 1 3 = true by decide, show (0 : Int32).toNatClampNeg = 0 by decide, show (1 : Int32).toNatClampNeg = 1 by decide, z0, z1, dnP]
      show some (dnZ (h.2.2.2.2 257 0).isSome + dnZ (h.2.2.2.2 257 1).isSome, h) = some ((0 + dnZ (h.2.2.2.2 257 0).isSome) + dnZ (h.2.2.2.2 257 1).isSome, h)
      rw [Int32.zero_add]
  refine call_pure (fun A w => ?_)
  cases hk : inB p 0 7
  · have h1 : ¬ (0 ≤ p ∧ p ≤ 7) := of_decide_eq_false hk
    have ne : ∀ x : Int32, 0 ≤ x → x ≤ 7 → ¬ p = x := fun x hx1 hx2 e => h1 ⟨by rw [e]; exact hx1, by rw [e]; exact hx2⟩
    refine ⟨-1, fun h0 h c => ?_, fun q0 k r => ⟨k, ?_, r⟩⟩
    · by_cases c0 : p < 0
      · simp only [fX12_count, fX12_count_j51, p8, p9, c0, if_false, if_true, dnP]
      · have c9 : ¬ p ≤ 9 := fun hc => by
          have a1 := Int32.le_iff_toInt_le.mp hc
          have a0 := Int32.not_lt.mp c0
          have k9 : (9 : Int32).toInt = 9 := rfl
          have k8 : (8 : Int32).toInt = 8 := rfl
          have k7 : (7 : Int32).toInt = 7 := rfl
          have n8 : p.toInt ≠ 8 := fun e => p8 (Int32.toInt_inj.mp (by rw [e, k8]))
          have n9 : p.toInt ≠ 9 := fun e => p9 (Int32.toInt_inj.mp (by rw [e, k9]))
          exact h1 ⟨a0, Int32.le_iff_toInt_le.mpr (by omega)⟩
        simp only [fX12_count, fX12_count_j51, p8, p9, c0, c9, if_false, dnP]
    · simp only [fX13_count, p8, p9, ne 0 (by decide) (by decide), ne 1 (by decide) (by decide), ne 2 (by decide) (by decide), ne 3 (by decide) (by decide), ne 4 (by decide) (by decide), ne 5 (by decide) (by decide), ne 6 (by decide) (by decide), ne 7 (by decide) (by decide), if_false, dnP]
  obtain ⟨x, hx, rfl⟩ := inB_of (n := 7) (by decide) hk
  have c0 : ¬ nI x < 0 := nI_pos (by omega)
  have c9 : nI x ≤ 9 := (nI_leI (b := 9) (by omega) (by decide)).mpr (by omega)
  by_cases x0 : x = 0
  · subst x0
    exact ⟨aI (fun g => decide (0 ≤ A.1 g)) 4, fun h0 h c => by simp only [fX12_count, fX9_amountOf, p8, p9, c0, c9, if_false, if_true, g_0_0 c.1, sv (st1 c.1), show ¬ (¬ nI 0 = 0) from by decide, present_c c, dnB_eval, dnP], fun q0 k r => ⟨k, by simp only [fX13_count, show nI 0 = 0 from rfl, if_true, dnB_eval, v_289 r.1, present_r r, dnP], r⟩⟩
  have n0 : ¬ nI x = 0 := fun hc => x0 ((nI_eq (b := 0) (by omega) (by decide)).mp hc)
  have cls : ∀ h0 h, CS h0 sp0 [] h A → fX12_count (some 0) (nI x) h = some (sI (amf A x) 24, h) := fun h0 h c => by
    have key := grids_c w c (nI x) (amf A x) (fun g hg p hp h => amf_out hp h) (fun g hg p hp => by
      have := (pln_A w hg).1
      rw [amf_in (by omega) hp]
      exact amt_c w c (by omega) (by omega) hg hp)
    simp only [fX12_count, fX9_amountOf, p8, p9, c0, c9, if_false, if_true, g_0_0 c.1, sv (st1 c.1), n0, not_false_eq_true, key, dnB_eval, dnP]
  have hz : ∀ g, g < 4 → ∀ p, p < 6 → pln A g ≤ p → amf A x (6 * g + p) = 0 := fun g hg p hp h => amf_out hp h
  have gri : ∀ g, g < 4 → ∀ p, p < pln A g → (gr A (6 * g + p) = none ∧ (A.2.1 (6 * g + p) = -14 ∨ A.2.1 (6 * g + p) = -12 ∨ A.2.1 (6 * g + p) = -13)) ∨ ∃ r, r < 31 ∧ gr A (6 * g + p) = some r ∧ A.2.1 (6 * g + p) = nI r := fun g hg p hp => by
    obtain ⟨p1, p2, p3, p4⟩ := pln_A w hg
    rcases w.2.1 (6 * g + p) (by omega) with e | e | e | ⟨r, hr, e⟩
    · exact .inl ⟨by unfold gr; rw [e]; rfl, .inl e⟩
    · exact .inl ⟨by unfold gr; rw [e]; rfl, .inr (.inl e)⟩
    · exact .inl ⟨by unfold gr; rw [e]; rfl, .inr (.inr e)⟩
    · exact .inr ⟨r, hr, by unfold gr; rw [e, if_neg (nI_pos (by omega)), nI_clamp (by omega)], e⟩
  have rz : ∀ lo hi : Int32, (∀ g, g < 4 → ∀ p, p < pln A g → dnZ (inB (rc (A.2.1 (6 * g + p))) lo hi) = amt A x (6 * g + p)) → ∀ q0 k, RS q0 [] k A → fX13_placesWith (some 289) lo hi k = some (sI (amf A x) 24, k) := fun lo hi ha q0 k r => grids_r w r lo hi (amf A x) hz (fun g hg p hp => by
    have := (pln_A w hg).1
    rw [amf_in (by omega) hp]
    exact ha g hg p hp)
  have inr : ∀ r, r < 31 → inB (nI r) (-3) 32 = true ∧ inB (nI r) 0 32 = true ∧ inB (nI r) (-1) (-1) = false ∧ inB (nI r) (-3) (-2) = false := by decide +kernel
  have rows : ∀ v : Nat → Int32, (∀ k, amt A x k = (match gr A k with | none => 0 | some r => if fh A r = k then v r else 0)) → sI (amf A x) 24 = sI (fun r => if fh A r < 24 then v r else 0) 32 := fun v hv => by
    rw [← count_rows w v]
    refine sI_congr 24 (fun k hk => ?_)
    unfold amf
    split
    · exact hv k
    · rename_i q
      rw [gr_out w hk q]
  refine ⟨sI (amf A x) 24, cls, fun q0 k r => ⟨k, ?_, r⟩⟩
  rcases (by omega : x = 1 ∨ x = 2 ∨ x = 3 ∨ x = 4 ∨ x = 5 ∨ x = 6 ∨ x = 7) with rfl | rfl | rfl | rfl | rfl | rfl | rfl
  · have := rz (-3) 32 (fun g hg p hp => by
      rcases gri g hg p hp with ⟨e, e2 | e2 | e2⟩ | ⟨r, hr, e, e2⟩
      · rw [e2]; rfl
      · rw [e2]; rfl
      · rw [e2]; rfl
      · rw [e2, rc_nI hr, (inr r hr).1]; rfl) q0 k r
    simp only [fX13_count, show nI 1 = 1 from rfl, show ¬ (1 : Int32) = 0 by decide, if_false, if_true, dnB_eval, v_289 r.1, this, dnP]
  · have := rz 0 32 (fun g hg p hp => by
      unfold amt
      rcases gri g hg p hp with ⟨e, e2 | e2 | e2⟩ | ⟨r, hr, e, e2⟩
      · rw [e2, e]; rfl
      · rw [e2, e]; rfl
      · rw [e2, e]; rfl
      · rw [e2, e, rc_nI hr, (inr r hr).2.1]; rfl) q0 k r
    simp only [fX13_count, show nI 2 = 2 from rfl, show ¬ (2 : Int32) = 0 by decide, show ¬ (2 : Int32) = 1 by decide, if_false, if_true, dnB_eval, v_289 r.1, this, dnP]
  · have o := ofRows_r w r (x := 3) (fun _ => 1) (.inl ⟨rfl, rfl⟩)
    rw [← rows (fun _ => 1) (fun k => rfl)] at o
    have o : fX13_ofRows (some 289) 3 k = some (sI (amf A 3) 24, k) := o
    simp only [fX13_count, fX13_count_j78, show nI 3 = 3 from rfl, show ¬ (3 : Int32) = 0 by decide, show ¬ (3 : Int32) = 1 by decide, show ¬ (3 : Int32) = 2 by decide, if_false, if_true, dnB_eval, v_289 r.1, o, dnP]
  · have o := ofRows_r w r (x := 4) (fun r => nI (A.2.2.1 r).2.1) (.inr (.inl ⟨rfl, rfl⟩))
    rw [← rows (fun r => nI (A.2.2.1 r).2.1) (fun k => rfl)] at o
    have o : fX13_ofRows (some 289) 4 k = some (sI (amf A 4) 24, k) := o
    simp only [fX13_count, fX13_count_j78, show nI 4 = 4 from rfl, show ¬ (4 : Int32) = 0 by decide, show ¬ (4 : Int32) = 1 by decide, show ¬ (4 : Int32) = 2 by decide, show ¬ (4 : Int32) = 3 by decide, if_false, if_true, dnB_eval, v_289 r.1, o, dnP]
  · have := rz (-1) (-1) (fun g hg p hp => by
      unfold amt
      rcases gri g hg p hp with ⟨e, e2 | e2 | e2⟩ | ⟨r, hr, e, e2⟩
      · rw [e2]; rfl
      · rw [e2]; rfl
      · rw [e2]; rfl
      · have e14 : ¬ nI r = (-14 : Int32) := fun ee => absurd (show nI r < 0 by rw [ee]; decide) (nI_pos (by omega))
        rw [e2, rc_nI hr, (inr r hr).2.2.1]
        simp [e14, dnZ]) q0 k r
    simp only [fX13_count, show nI 5 = 5 from rfl, show ¬ (5 : Int32) = 0 by decide, show ¬ (5 : Int32) = 1 by decide, show ¬ (5 : Int32) = 2 by decide, show ¬ (5 : Int32) = 3 by decide, show ¬ (5 : Int32) = 4 by decide, if_false, if_true, dnB_eval, v_289 r.1, this, dnP]
  · have := rz (-3) (-2) (fun g hg p hp => by
      unfold amt
      rcases gri g hg p hp with ⟨e, e2 | e2 | e2⟩ | ⟨r, hr, e, e2⟩
      · rw [e2, e]; rfl
      · rw [e2, e]; rfl
      · rw [e2, e]; rfl
      · rw [e2, e, rc_nI hr, (inr r hr).2.2.2]; rfl) q0 k r
    simp only [fX13_count, show nI 6 = 6 from rfl, show ¬ (6 : Int32) = 0 by decide, show ¬ (6 : Int32) = 1 by decide, show ¬ (6 : Int32) = 2 by decide, show ¬ (6 : Int32) = 3 by decide, show ¬ (6 : Int32) = 4 by decide, show ¬ (6 : Int32) = 5 by decide, if_false, if_true, dnB_eval, v_289 r.1, this, dnP]
  · have o := ofRows_r w r (x := 7) (fun r => aI (nlF (A.2.2.1 r)) (A.2.2.1 r).2.1) (.inr (.inr ⟨rfl, rfl⟩))
    rw [← rows (fun r => aI (nlF (A.2.2.1 r)) (A.2.2.1 r).2.1) (fun k => rfl)] at o
    have o : fX13_ofRows (some 289) 7 k = some (sI (amf A 7) 24, k) := o
    simp only [fX13_count, fX13_count_j78, show nI 7 = 7 from rfl, show ¬ (7 : Int32) = 0 by decide, show ¬ (7 : Int32) = 1 by decide, show ¬ (7 : Int32) = 2 by decide, show ¬ (7 : Int32) = 3 by decide, show ¬ (7 : Int32) = 4 by decide, show ¬ (7 : Int32) = 5 by decide, show ¬ (7 : Int32) = 6 by decide, if_false, if_true, dnB_eval, v_289 r.1, o, dnP]
