/-! PURE 16: calls that change nothing -/
theorem close0 {B : Nat} {h : dnH} (a : Rel B h) (v : Int32) : Rel B (flI (cnt (cnt h 288 v) 290 v) 295 32 0) := by
  have ec : Eqc (fun x => x ≠ 288) h (cnt h 288 v) := eqc_cnt (fun hc => hc rfl)
  refine close (g := h) (g2 := cnt h 288 v) a (Nat.le_refl _) Eqc.rf Eqc.rf ?_ a.2.2.1 a.2.2.2.1 ?_ ?_ ?_
  · rw [vR_go ec (fun x h1 h2 h3 => by omega)]
    exact a.2.2.2.2.2.1
  · rw [(ec.2.2 289 (by decide)).1, (ec.2.2 289 (by decide)).2.1]
    exact a.2.2.2.2.2.2.1
  · rw [(ec.2.2 289 (by decide)).1]
  · rw [(ec.2.2 289 (by decide)).1]
theorem hasPlace_bad {h : dnH} {g : Int32} (hg : inB g 0 3 = false) (p : Int32) : fX9_hasPlace (some 1) g p h = some (false, h) := by
  have h1 : ¬ (0 ≤ g ∧ g ≤ 3) := of_decide_eq_false hg
  unfold fX9_hasPlace
  by_cases c : g < 0
  · rw [if_pos c]; rfl
  · have c4 : (4 : Int32) ≤ g := by
      have h2 := Int32.not_lt.mp c
      have h3 : ¬ g ≤ 3 := fun hc => h1 ⟨h2, hc⟩
      rw [i_lit (a := 3) (b := 4) (c := 0) rfl g]
      exact h3
    rw [if_neg c, if_pos c4]; rfl
theorem rowAt_bad {h : dnH} (hh : Sh h) {g : Int32} (hg : inB g 0 3 = false) (p : Int32) : fX9_rowAt (some 1) g p h = some (none, h) := by
  simp only [fX9_rowAt, dnB_eval, sv (st1 hh), hasPlace_bad hg, Bool.false_eq_true, if_false, dnP]
theorem placeFault_bad {h : dnH} (hh : Sh h) {g : Int32} (hg : inB g 0 3 = false) (p : Int32) : fX9_placeFault (some 1) g p h = some (-1, h) := by
  simp only [fX9_placeFault, fX9_gridFault, dnB_eval, sv (st1 hh), c_isGrid, hg, dnP, Bool.false_eq_true, if_false, show ¬ (0 : Int32) ≤ -1 by decide]
theorem rowFault_bad {h : dnH} (hh : Sh h) {g : Int32} (hg : inB g 0 3 = false) (p : Int32) : fX9_rowFault (some 1) g p h = some (-1, h) := by
  simp only [fX9_rowFault, dnB_eval, sv (st1 hh), placeFault_bad hh hg, show ¬ (0 : Int32) ≤ -1 by decide, if_false, dnP]
/-- what may stand at a place that is asked for -/
theorem look {B : Nat} {h : dnH} (a : Rel B h) (g p : Int32) :
    inB g 0 3 = false ∨ ∃ G : Nat, G < 4 ∧ g = nI G ∧ plOk (h.2.1 2 G) ∧ h.2.1 291 G = h.2.1 2 G ∧
      (pf (h.2.1 2 G) p ≠ 0 ∨ ∃ m q : Nat, m ≤ 6 ∧ q < m ∧ h.2.1 2 G = nI m ∧ p = nI q ∧
        ((h.2.1 3 (6 * G + q) < 0 ∧ hR (h.2.1 292 (6 * G + q)) (h.2.1 3 (6 * G + q))) ∨
          ∃ r : Nat, r < 31 ∧ h.2.1 3 (6 * G + q) = nI r ∧ h.2.1 292 (6 * G + q) = nI r ∧ rowRel B (vS h 1) (vR h) r)) := by
  cases hg : inB g 0 3
  · exact .inl rfl
  · right
    obtain ⟨G, hG, rfl⟩ := inB_of (n := 3) (by decide) hg
    obtain ⟨s1, s2, -, s4⟩ := a.2.2.2.2.2.1
    obtain ⟨hp, hq⟩ := s1 G (by omega)
    refine ⟨G, by omega, rfl, hp, hq, ?_⟩
    by_cases c : pf (h.2.1 2 G) p = 0
    · right
      obtain ⟨m, q, hm, e1, e2, e3⟩ := pf_0 hp c
      refine ⟨m, q, hm, e2, e1, e3, ?_⟩
      have hk : 6 * G + q < 24 := by omega
      have hh := s2 _ hk
      rcases hh with ⟨x1, x2⟩ | ⟨x1, x2⟩ | ⟨x1, x2⟩ | ⟨r, hr, x1, x2⟩
      · exact .inl ⟨by rw [show h.2.1 3 (6 * G + q) = -14 from x2]; decide, .inl ⟨x1, x2⟩⟩
      · exact .inl ⟨by rw [show h.2.1 3 (6 * G + q) = -12 from x2]; decide, .inr (.inl ⟨x1, x2⟩)⟩
      · exact .inl ⟨by rw [show h.2.1 3 (6 * G + q) = -13 from x2]; decide, .inr (.inr (.inl ⟨x1, x2⟩))⟩
      · exact .inr ⟨r, hr, x2, x1, s4 _ hk r hr x2⟩
    · exact .inl c
theorem hR_rf {x c : Int32} (h : hR x c) (hc : c < 0) : rfR x = (if c = -14 then -4 else -5) := by
  rcases h with ⟨rfl, rfl⟩ | ⟨rfl, rfl⟩ | ⟨rfl, rfl⟩ | ⟨r, hr, rfl, rfl⟩
  · rfl
  · rfl
  · rfl
  · exact absurd hc (nI_pos (by omega))
