/-! LAW 3: the law -/
theorem rwB_ok {h : dnH} {a : Nat} (e : rwB h a = true) : RowAt h a := by
  unfold rwB at e
  have e := of_decide_eq_true e
  exact e
theorem stB_ok {h : dnH} {s : Nat} (e : stB h s = true) : StAt h s := by
  obtain ⟨e1, e2⟩ := Bool.and_eq_true_iff.mp e
  obtain ⟨e3, e4⟩ := of_decide_eq_true e1
  refine ⟨e3, e4, fun n hn => ?_⟩
  obtain ⟨e5, e6⟩ := Bool.and_eq_true_iff.mp (List.all_eq_true.mp e2 n (List.mem_range.mpr hn))
  exact ⟨of_decide_eq_true e5, rwB_ok e6⟩
theorem shB_ok {h : dnH} (e : shB h = true) : Sh h := by
  obtain ⟨e1, e⟩ := Bool.and_eq_true_iff.mp e
  obtain ⟨e2, e⟩ := Bool.and_eq_true_iff.mp e
  obtain ⟨e3, e⟩ := Bool.and_eq_true_iff.mp e
  obtain ⟨e4, e⟩ := Bool.and_eq_true_iff.mp e
  obtain ⟨e5, e⟩ := Bool.and_eq_true_iff.mp e
  obtain ⟨e6, e7⟩ := Bool.and_eq_true_iff.mp e
  exact ⟨fun q hq => of_decide_eq_true (List.all_eq_true.mp e1 q hq), fun q hq => of_decide_eq_true (List.all_eq_true.mp e2 q hq), stB_ok e3, stB_ok e4, rwB_ok e5, rwB_ok e6, rwB_ok e7⟩
theorem boot_rel : ∃ h, bootF dnH0 = some ((some 0, some 289), h) ∧ Rel 16 h := by
  have e := boot_ok
  unfold bootB at e
  cases hb : bootF dnH0 with
  | none => rw [hb] at e; cases e
  | some q =>
    rw [hb] at e
    obtain ⟨e1, e⟩ := Bool.and_eq_true_iff.mp e
    obtain ⟨es, e⟩ := Bool.and_eq_true_iff.mp e
    obtain ⟨f1, e⟩ := Bool.and_eq_true_iff.mp e
    obtain ⟨f2, e⟩ := Bool.and_eq_true_iff.mp e
    obtain ⟨f3, e⟩ := Bool.and_eq_true_iff.mp e
    obtain ⟨f4, e⟩ := Bool.and_eq_true_iff.mp e
    obtain ⟨f5, e⟩ := Bool.and_eq_true_iff.mp e
    obtain ⟨f6, e⟩ := Bool.and_eq_true_iff.mp e
    obtain ⟨f7, e⟩ := Bool.and_eq_true_iff.mp e
    obtain ⟨f8, f9⟩ := Bool.and_eq_true_iff.mp e
    have e1 := of_decide_eq_true e1
    have f1 := of_decide_eq_true f1
    have f2 : ∀ r, r < 31 → q.2.2.1 (5 + 4 * r) 0 = nI r := fun r hr => of_decide_eq_true (List.all_eq_true.mp f2 r (List.mem_range.mpr hr))
    have f3 : ∀ p, p < 6 → q.2.2.1 3 (24 + p) = -14 := fun r hr => of_decide_eq_true (List.all_eq_true.mp f3 r (List.mem_range.mpr hr))
    have f4 : ∀ r, r < 32 → q.2.2.1 295 r = 0 := fun r hr => of_decide_eq_true (List.all_eq_true.mp f4 r (List.mem_range.mpr hr))
    have f5 : ∀ g, g < 4 → q.2.2.1 2 g = -1 ∧ q.2.2.1 291 g = -1 := fun r hr => of_decide_eq_true (List.all_eq_true.mp f5 r (List.mem_range.mpr hr))
    have f6 : ∀ k, k < 24 → q.2.2.1 3 k = -14 ∧ q.2.2.1 292 k = -1 := fun r hr => of_decide_eq_true (List.all_eq_true.mp f6 r (List.mem_range.mpr hr))
    have f7 := of_decide_eq_true f7
    have f8 : ∀ i, i < 11 → q.2.2.1 288 i = q.2.2.1 290 i := fun r hr => of_decide_eq_true (List.all_eq_true.mp f8 r (List.mem_range.mpr hr))
    obtain ⟨g1, g2, g3, g4, g5, g6, g7, g8⟩ := of_decide_eq_true f9
    refine ⟨q.2, by rw [← e1], shB_ok es, by omega, f2, f3, f4, ⟨fun g hg => ?_, fun k hk => ?_, fun g hg p hp _ => ?_, fun k hk n hn he => ?_⟩, f7, f8, ⟨0, by decide, g1, g2, fun i hi => by omega⟩, ⟨0, by decide, g3, g4, fun i hi => by omega⟩, .inl ⟨g5, g6⟩, .inl ⟨g7, g8⟩, fun s t hs _ => by rw [g5] at hs; cases hs⟩
    · have e1 : (vS q.2 1).1 g = -1 := (f5 g hg).1
      have e2 : (vR q.2).1 g = -1 := (f5 g hg).2
      rw [e1, e2]
      exact ⟨.inl rfl, rfl⟩
    · have e1 : (vS q.2 1).2.1 k = -14 := (f6 k hk).1
      have e2 : (vR q.2).2.1 k = -1 := (f6 k hk).2
      rw [e1, e2]
      exact .inl ⟨rfl, rfl⟩
    · exact (f6 (6 * g + p) (by omega)).1
    · have e1 : (vS q.2 1).2.1 k = -14 := (f6 k hk).1
      rw [e1] at he
      exact absurd (show nI n < 0 by rw [← he]; decide) (nI_pos (by omega))
theorem cv9 {α : Type} {X : dnM α} {h : dnH} (k : h.1[289]? = some (11, 0)) : dnCv (some 289) 11 X h = X h := by simp only [dnCv, dnB, dnCk, dnAt_ok k, Option.map_some]
theorem turn_ok {L j B : Nat} {xs : Nat → Int32} {h : dnH} (hL : L ≤ 3584) (hj : 7 * j + 7 ≤ L) (hB : 16 ≤ B) (hB128 : B + 128 < 2 ^ 24) (a : Rel B h) : ∃ h2, fL_law_b18 L xs (some 0) (some 289) (nI (7 * j)) h = some (.inl (nI (7 * (j + 1))), h2) ∧ Rel (B + 128) h2 := by
  have hs := a.1
  have hB16 : B + 16 < 2 ^ 24 := by omega
  have hB24 : B < 2 ^ 24 := by omega
  have t9 : h.1[289]? = some (11, 0) := hs.1 (289, 11, 0) (by decide)
  have xc : ∀ p, p < L → ∀ k, dnXc L xs (nI p) k = some (xs p, k) := fun p hp k => by
    unfold dnXc
    rw [dnIn_nI hp (by omega), nI_clamp (by omega)]
    rfl
  have hc : ¬ (Int32.ofNat L - 7 < nI (7 * j)) := fun hc => by
    have e : Int32.ofNat L - 7 = nI (L - 7) := nI_sub (a := L) (b := 7) (by omega)
    rw [e] at hc
    have := (nI_ltI (a := L - 7) (b := 7 * j) (by omega) (by omega)).mp hc
    omega
  have i1 : nI (7 * j) + 1 = nI (7 * j + 1) := nI_add _ 1
  have i2 : nI (7 * j) + 2 = nI (7 * j + 2) := nI_add _ 2
  have i3 : nI (7 * j) + 3 = nI (7 * j + 3) := nI_add _ 3
  have i4 : nI (7 * j) + 4 = nI (7 * j + 4) := nI_add _ 4
  have i5 : nI (7 * j) + 5 = nI (7 * j + 5) := nI_add _ 5
  have i6 : nI (7 * j) + 6 = nI (7 * j + 6) := nI_add _ 6
  have i7 : nI (7 * j) + 7 = nI (7 * (j + 1)) := nI_add _ 7
  have x0 := xc (7 * j) (by omega)
  have x1 := xc (7 * j + 1) (by omega)
  have x2 := xc (7 * j + 2) (by omega)
  have x3 := xc (7 * j + 3) (by omega)
  have x4 := xc (7 * j + 4) (by omega)
  have x5 := xc (7 * j + 5) (by omega)
  have x6 := xc (7 * j + 6) (by omega)
  have xb : ∀ {β : Type} (F : Int32 → dnM β), dnB (dnXc L xs (nI (7 * j))) F h = F (xs (7 * j)) h := fun F => by
    unfold dnB
    rw [x0]
  unfold fL_law_b18
  rw [if_neg hc, xb]
  by_cases c0 : xs (7 * j) &&& 63 = 0
  · rw [if_pos c0]
    obtain ⟨v, h1, h2, e1, e2, r2⟩ := call_grid (xs (7 * j + 1)) (xs (7 * j + 2)) h a
    have k9 : h1.1[289]? = some (11, 0) := (by apply tg_fX12_grid : Tg (fX12_grid (some 0) (xs (7 * j + 1)) (xs (7 * j + 2)))) h v h1 e1 289 (11, 0) t9
    exact ⟨h2, by simp only [dnB_eval, i1, x1, i2, x2, v_0 hs, e1, cv9 k9, e2, if_true, fL_law_j2426, dnP, i7], r2.mono (by omega)⟩
  rw [if_neg c0]
  by_cases c1 : xs (7 * j) &&& 63 = 1
  · rw [if_pos c1]
    obtain ⟨v, h1, h2, e1, e2, r2⟩ := call_drop (xs (7 * j + 1)) h a
    have k9 : h1.1[289]? = some (11, 0) := (by apply tg_fX12_drop : Tg (fX12_drop (some 0) (xs (7 * j + 1)))) h v h1 e1 289 (11, 0) t9
    exact ⟨h2, by simp only [dnB_eval, i1, x1, v_0 hs, e1, cv9 k9, e2, if_true, fL_law_j2426, dnP, i7], r2.mono (by omega)⟩
  rw [if_neg c1]
  by_cases c2 : xs (7 * j) &&& 63 = 2
  · rw [if_pos c2]
    obtain ⟨v, h1, h2, e1, e2, r2⟩ := call_row hB (xs (7 * j + 1)) (xs (7 * j + 2)) (xs (7 * j + 3)) (xs (7 * j + 4)) h a
    have k9 : h1.1[289]? = some (11, 0) := (by apply tg_fX12_row : Tg (fX12_row (some 0) (xs (7 * j + 1)) (xs (7 * j + 2)) (xs (7 * j + 3)) (xs (7 * j + 4)))) h v h1 e1 289 (11, 0) t9
    exact ⟨h2, by simp only [dnB_eval, i1, x1, i2, x2, i3, x3, i4, x4, v_0 hs, e1, cv9 k9, e2, if_true, fL_law_j2426, dnP, i7], r2.mono (by omega)⟩
  rw [if_neg c2]
  by_cases c3 : xs (7 * j) &&& 63 = 3
  · rw [if_pos c3]
    obtain ⟨v, h1, h2, e1, e2, r2⟩ := call_thing (xs (7 * j + 1)) (xs (7 * j + 2)) (xs (7 * j + 3)) h a
    have k9 : h1.1[289]? = some (11, 0) := (by apply tg_fX12_thing : Tg (fX12_thing (some 0) (xs (7 * j + 1)) (xs (7 * j + 2)) (xs (7 * j + 3)))) h v h1 e1 289 (11, 0) t9
    exact ⟨h2, by simp only [dnB_eval, i1, x1, i2, x2, i3, x3, v_0 hs, e1, cv9 k9, e2, if_true, fL_law_j2426, dnP, i7], r2.mono (by omega)⟩
  rw [if_neg c3]
  by_cases c4 : xs (7 * j) &&& 63 = 4
  · rw [if_pos c4]
    obtain ⟨v, h1, h2, e1, e2, r2⟩ := call_share (xs (7 * j + 1)) (xs (7 * j + 2)) (xs (7 * j + 3)) (xs (7 * j + 4)) h a
    have k9 : h1.1[289]? = some (11, 0) := (by apply tg_fX12_share : Tg (fX12_share (some 0) (xs (7 * j + 1)) (xs (7 * j + 2)) (xs (7 * j + 3)) (xs (7 * j + 4)))) h v h1 e1 289 (11, 0) t9
    exact ⟨h2, by simp only [dnB_eval, i1, x1, i2, x2, i3, x3, i4, x4, v_0 hs, e1, cv9 k9, e2, if_true, fL_law_j2426, dnP, i7], r2.mono (by omega)⟩
  rw [if_neg c4]
  by_cases c5 : xs (7 * j) &&& 63 = 5
  · rw [if_pos c5]
    obtain ⟨v, h1, h2, e1, e2, r2⟩ := call_swap (xs (7 * j + 1)) (xs (7 * j + 2)) (xs (7 * j + 3)) (xs (7 * j + 4)) h a
    have k9 : h1.1[289]? = some (11, 0) := (by apply tg_fX12_swap : Tg (fX12_swap (some 0) (xs (7 * j + 1)) (xs (7 * j + 2)) (xs (7 * j + 3)) (xs (7 * j + 4)))) h v h1 e1 289 (11, 0) t9
    exact ⟨h2, by simp only [dnB_eval, i1, x1, i2, x2, i3, x3, i4, x4, v_0 hs, e1, cv9 k9, e2, if_true, fL_law_j2426, dnP, i7], r2.mono (by omega)⟩
  rw [if_neg c5]
  by_cases c6 : xs (7 * j) &&& 63 = 6
  · rw [if_pos c6]
    obtain ⟨v, h1, h2, e1, e2, r2⟩ := call_holds B (xs (7 * j + 1)) (xs (7 * j + 2)) h a
    have k9 : h1.1[289]? = some (11, 0) := (by apply tg_fX12_holds : Tg (fX12_holds (some 0) (xs (7 * j + 1)) (xs (7 * j + 2)))) h v h1 e1 289 (11, 0) t9
    exact ⟨h2, by simp only [dnB_eval, i1, x1, i2, x2, v_0 hs, e1, cv9 k9, e2, if_true, fL_law_j2426, dnP, i7], r2.mono (by omega)⟩
  rw [if_neg c6]
  by_cases c7 : xs (7 * j) &&& 63 = 7
  · rw [if_pos c7]
    obtain ⟨v, h1, h2, e1, e2, r2⟩ := call_same B (xs (7 * j + 1)) (xs (7 * j + 2)) (xs (7 * j + 3)) (xs (7 * j + 4)) h a
    have k9 : h1.1[289]? = some (11, 0) := (by apply tg_fX12_same : Tg (fX12_same (some 0) (xs (7 * j + 1)) (xs (7 * j + 2)) (xs (7 * j + 3)) (xs (7 * j + 4)))) h v h1 e1 289 (11, 0) t9
    exact ⟨h2, by simp only [dnB_eval, i1, x1, i2, x2, i3, x3, i4, x4, v_0 hs, e1, cv9 k9, e2, if_true, fL_law_j2426, dnP, i7], r2.mono (by omega)⟩
  rw [if_neg c7]
  by_cases c8 : xs (7 * j) &&& 63 = 8
  · rw [if_pos c8]
    obtain ⟨v, h1, h2, e1, e2, r2⟩ := call_size B (xs (7 * j + 1)) (xs (7 * j + 2)) h a
    have k9 : h1.1[289]? = some (11, 0) := (by apply tg_fX12_size : Tg (fX12_size (some 0) (xs (7 * j + 1)) (xs (7 * j + 2)))) h v h1 e1 289 (11, 0) t9
    exact ⟨h2, by simp only [dnB_eval, i1, x1, i2, x2, v_0 hs, e1, cv9 k9, e2, if_true, fL_law_j2426, dnP, i7], r2.mono (by omega)⟩
  rw [if_neg c8]
  by_cases c9 : xs (7 * j) &&& 63 = 9
  · rw [if_pos c9]
    obtain ⟨v, h1, h2, e1, e2, r2⟩ := call_read hB (xs (7 * j + 1)) (xs (7 * j + 2)) (xs (7 * j + 3)) (xs (7 * j + 4)) h a
    have k9 : h1.1[289]? = some (11, 0) := (by apply tg_fX12_read : Tg (fX12_read (some 0) (xs (7 * j + 1)) (xs (7 * j + 2)) (xs (7 * j + 3)) (xs (7 * j + 4)))) h v h1 e1 289 (11, 0) t9
    exact ⟨h2, by simp only [dnB_eval, i1, x1, i2, x2, i3, x3, i4, x4, v_0 hs, e1, cv9 k9, e2, if_true, fL_law_j2426, dnP, i7], r2.mono (by omega)⟩
  rw [if_neg c9]
  by_cases c10 : xs (7 * j) &&& 63 = 10
  · rw [if_pos c10]
    obtain ⟨v, h1, h2, e1, e2, r2⟩ := call_write hB (xs (7 * j + 1)) (xs (7 * j + 2)) (xs (7 * j + 3)) (xs (7 * j + 4)) (((((xs (7 * j + 5)) : Int32).toInt64) <<< ((32 : Int32).toInt64 &&& 63)) ||| ((((xs (7 * j + 6)) : Int32).toInt64) &&& 4294967295)) h a
    have k9 : h1.1[289]? = some (11, 0) := (by apply tg_fX12_write : Tg (fX12_write (some 0) (xs (7 * j + 1)) (xs (7 * j + 2)) (xs (7 * j + 3)) (xs (7 * j + 4)) (((((xs (7 * j + 5)) : Int32).toInt64) <<< ((32 : Int32).toInt64 &&& 63)) ||| ((((xs (7 * j + 6)) : Int32).toInt64) &&& 4294967295)))) h v h1 e1 289 (11, 0) t9
    exact ⟨h2, by simp only [dnB_eval, i1, x1, i2, x2, i3, x3, i4, x4, i5, x5, i6, x6, v_0 hs, e1, cv9 k9, e2, if_true, fL_law_j2426, dnP, i7], r2.mono (by omega)⟩
  rw [if_neg c10]
  by_cases c11 : xs (7 * j) &&& 63 = 11
  · rw [if_pos c11]
    obtain ⟨v, h1, h2, e1, e2, r2⟩ := call_put hB (xs (7 * j + 1)) (xs (7 * j + 2)) (xs (7 * j + 3)) (xs (7 * j + 4)) (((((xs (7 * j + 5)) : Int32).toInt64) <<< ((32 : Int32).toInt64 &&& 63)) ||| ((((xs (7 * j + 6)) : Int32).toInt64) &&& 4294967295)) h a
    have k9 : h1.1[289]? = some (11, 0) := (by apply tg_fX12_put : Tg (fX12_put (some 0) (xs (7 * j + 1)) (xs (7 * j + 2)) (xs (7 * j + 3)) (xs (7 * j + 4)) (((((xs (7 * j + 5)) : Int32).toInt64) <<< ((32 : Int32).toInt64 &&& 63)) ||| ((((xs (7 * j + 6)) : Int32).toInt64) &&& 4294967295)))) h v h1 e1 289 (11, 0) t9
    exact ⟨h2, by simp only [dnB_eval, i1, x1, i2, x2, i3, x3, i4, x4, i5, x5, i6, x6, v_0 hs, e1, cv9 k9, e2, if_true, fL_law_j2426, dnP, i7], r2.mono (by omega)⟩
  rw [if_neg c11]
  by_cases c12 : xs (7 * j) &&& 63 = 12
  · rw [if_pos c12]
    obtain ⟨v, h1, h2, e1, e2, r2⟩ := call_find (xs (7 * j + 1)) (xs (7 * j + 2)) (xs (7 * j + 3)) (((((xs (7 * j + 4)) : Int32).toInt64) <<< ((32 : Int32).toInt64 &&& 63)) ||| ((((xs (7 * j + 5)) : Int32).toInt64) &&& 4294967295)) h a
    have k9 : h1.1[289]? = some (11, 0) := (by apply tg_fX12_find : Tg (fX12_find (some 0) (xs (7 * j + 1)) (xs (7 * j + 2)) (xs (7 * j + 3)) (((((xs (7 * j + 4)) : Int32).toInt64) <<< ((32 : Int32).toInt64 &&& 63)) ||| ((((xs (7 * j + 5)) : Int32).toInt64) &&& 4294967295)))) h v h1 e1 289 (11, 0) t9
    exact ⟨h2, by simp only [dnB_eval, i1, x1, i2, x2, i3, x3, i4, x4, i5, x5, v_0 hs, e1, cv9 k9, e2, if_true, fL_law_j2426, dnP, i7], r2.mono (by omega)⟩
  rw [if_neg c12]
  by_cases c13 : xs (7 * j) &&& 63 = 13
  · rw [if_pos c13]
    obtain ⟨v, h1, h2, e1, e2, r2⟩ := call_alike (xs (7 * j + 1)) (xs (7 * j + 2)) (xs (7 * j + 3)) (xs (7 * j + 4)) h a
    have k9 : h1.1[289]? = some (11, 0) := (by apply tg_fX12_alike : Tg (fX12_alike (some 0) (xs (7 * j + 1)) (xs (7 * j + 2)) (xs (7 * j + 3)) (xs (7 * j + 4)))) h v h1 e1 289 (11, 0) t9
    exact ⟨h2, by simp only [dnB_eval, i1, x1, i2, x2, i3, x3, i4, x4, v_0 hs, e1, cv9 k9, e2, if_true, fL_law_j2426, dnP, i7], r2.mono (by omega)⟩
  rw [if_neg c13]
  by_cases c14 : xs (7 * j) &&& 63 = 14
  · rw [if_pos c14]
    obtain ⟨v, h1, h2, e1, e2, r2⟩ := call_cut hB (xs (7 * j + 1)) (xs (7 * j + 2)) (xs (7 * j + 3)) (xs (7 * j + 4)) (xs (7 * j + 5)) h a
    have k9 : h1.1[289]? = some (11, 0) := (by apply tg_fX12_cut : Tg (fX12_cut (some 0) (xs (7 * j + 1)) (xs (7 * j + 2)) (xs (7 * j + 3)) (xs (7 * j + 4)) (xs (7 * j + 5)))) h v h1 e1 289 (11, 0) t9
    exact ⟨h2, by simp only [dnB_eval, i1, x1, i2, x2, i3, x3, i4, x4, i5, x5, v_0 hs, e1, cv9 k9, e2, if_true, fL_law_j2426, dnP, i7], r2.mono (by omega)⟩
  rw [if_neg c14]
  by_cases c15 : xs (7 * j) &&& 63 = 15
  · rw [if_pos c15]
    obtain ⟨v, h1, h2, e1, e2, r2⟩ := call_cast hB (xs (7 * j + 1)) (xs (7 * j + 2)) (xs (7 * j + 3)) h a
    have k9 : h1.1[289]? = some (11, 0) := (by apply tg_fX12_cast : Tg (fX12_cast (some 0) (xs (7 * j + 1)) (xs (7 * j + 2)) (xs (7 * j + 3)))) h v h1 e1 289 (11, 0) t9
    exact ⟨h2, by simp only [dnB_eval, i1, x1, i2, x2, i3, x3, v_0 hs, e1, cv9 k9, e2, if_true, fL_law_j2426, dnP, i7], r2.mono (by omega)⟩
  rw [if_neg c15]
  by_cases c16 : xs (7 * j) &&& 63 = 16
  · rw [if_pos c16]
    obtain ⟨v, h1, h2, e1, e2, r2⟩ := call_pour hB (xs (7 * j + 1)) (xs (7 * j + 2)) (xs (7 * j + 3)) (xs (7 * j + 4)) h a
    have k9 : h1.1[289]? = some (11, 0) := (by apply tg_fX12_pour : Tg (fX12_pour (some 0) (xs (7 * j + 1)) (xs (7 * j + 2)) (xs (7 * j + 3)) (xs (7 * j + 4)))) h v h1 e1 289 (11, 0) t9
    exact ⟨h2, by simp only [dnB_eval, i1, x1, i2, x2, i3, x3, i4, x4, v_0 hs, e1, cv9 k9, e2, if_true, fL_law_j2426, dnP, i7], r2.mono (by omega)⟩
  rw [if_neg c16]
  by_cases c17 : xs (7 * j) &&& 63 = 17
  · rw [if_pos c17]
    obtain ⟨v, h1, h2, e1, e2, r2⟩ := call_join hB (xs (7 * j + 1)) (xs (7 * j + 2)) (xs (7 * j + 3)) h a
    have k9 : h1.1[289]? = some (11, 0) := (by apply tg_fX12_join : Tg (fX12_join (some 0) (xs (7 * j + 1)) (xs (7 * j + 2)) (xs (7 * j + 3)))) h v h1 e1 289 (11, 0) t9
    exact ⟨h2, by simp only [dnB_eval, i1, x1, i2, x2, i3, x3, v_0 hs, e1, cv9 k9, e2, if_true, fL_law_j2426, dnP, i7], r2.mono (by omega)⟩
  rw [if_neg c17]
  by_cases c18 : xs (7 * j) &&& 63 = 18
  · rw [if_pos c18]
    obtain ⟨v, h1, h2, e1, e2, r2⟩ := call_flip (xs (7 * j + 1)) (xs (7 * j + 2)) h a
    have k9 : h1.1[289]? = some (11, 0) := (by apply tg_fX12_flip : Tg (fX12_flip (some 0) (xs (7 * j + 1)) (xs (7 * j + 2)))) h v h1 e1 289 (11, 0) t9
    exact ⟨h2, by simp only [dnB_eval, i1, x1, i2, x2, v_0 hs, e1, cv9 k9, e2, if_true, fL_law_j2426, dnP, i7], r2.mono (by omega)⟩
  rw [if_neg c18]
  by_cases c19 : xs (7 * j) &&& 63 = 19
  · rw [if_pos c19]
    obtain ⟨v, h1, h2, e1, e2, r2⟩ := call_roll (xs (7 * j + 1)) (xs (7 * j + 2)) (xs (7 * j + 3)) h a
    have k9 : h1.1[289]? = some (11, 0) := (by apply tg_fX12_roll : Tg (fX12_roll (some 0) (xs (7 * j + 1)) (xs (7 * j + 2)) (xs (7 * j + 3)))) h v h1 e1 289 (11, 0) t9
    exact ⟨h2, by simp only [dnB_eval, i1, x1, i2, x2, i3, x3, v_0 hs, e1, cv9 k9, e2, if_true, fL_law_j2426, dnP, i7], r2.mono (by omega)⟩
  rw [if_neg c19]
  by_cases c20 : xs (7 * j) &&& 63 = 20
  · rw [if_pos c20]
    obtain ⟨v, h1, h2, e1, e2, r2⟩ := call_order hB (xs (7 * j + 1)) (xs (7 * j + 2)) h a
    have k9 : h1.1[289]? = some (11, 0) := (by apply tg_fX12_order : Tg (fX12_order (some 0) (xs (7 * j + 1)) (xs (7 * j + 2)))) h v h1 e1 289 (11, 0) t9
    exact ⟨h2, by simp only [dnB_eval, i1, x1, i2, x2, v_0 hs, e1, cv9 k9, e2, if_true, fL_law_j2426, dnP, i7], r2.mono (by omega)⟩
  rw [if_neg c20]
  by_cases c21 : xs (7 * j) &&& 63 = 21
  · rw [if_pos c21]
    obtain ⟨v, h1, h2, e1, e2, r2⟩ := call_add hB hB16 (xs (7 * j + 1)) (xs (7 * j + 2)) (xs (7 * j + 3)) (xs (7 * j + 4)) h a
    have k9 : h1.1[289]? = some (11, 0) := (by apply tg_fX12_add : Tg (fX12_add (some 0) (xs (7 * j + 1)) (xs (7 * j + 2)) (xs (7 * j + 3)) (xs (7 * j + 4)))) h v h1 e1 289 (11, 0) t9
    exact ⟨h2, by simp only [dnB_eval, i1, x1, i2, x2, i3, x3, i4, x4, v_0 hs, e1, cv9 k9, e2, if_true, fL_law_j2426, dnP, i7], r2.mono (by omega)⟩
  rw [if_neg c21]
  by_cases c22 : xs (7 * j) &&& 63 = 22
  · rw [if_pos c22]
    obtain ⟨v, h1, h2, e1, e2, r2⟩ := call_above hB (xs (7 * j + 1)) (xs (7 * j + 2)) (xs (7 * j + 3)) (((((xs (7 * j + 4)) : Int32).toInt64) <<< ((32 : Int32).toInt64 &&& 63)) ||| ((((xs (7 * j + 5)) : Int32).toInt64) &&& 4294967295)) (xs (7 * j + 6)) h a
    have k9 : h1.1[289]? = some (11, 0) := (by apply tg_fX12_above : Tg (fX12_above (some 0) (xs (7 * j + 1)) (xs (7 * j + 2)) (xs (7 * j + 3)) (((((xs (7 * j + 4)) : Int32).toInt64) <<< ((32 : Int32).toInt64 &&& 63)) ||| ((((xs (7 * j + 5)) : Int32).toInt64) &&& 4294967295)) (xs (7 * j + 6)))) h v h1 e1 289 (11, 0) t9
    exact ⟨h2, by simp only [dnB_eval, i1, x1, i2, x2, i3, x3, i4, x4, i5, x5, i6, x6, v_0 hs, e1, cv9 k9, e2, if_true, fL_law_j2426, dnP, i7], r2.mono (by omega)⟩
  rw [if_neg c22]
  by_cases c23 : xs (7 * j) &&& 63 = 23
  · rw [if_pos c23]
    obtain ⟨v, h1, h2, e1, e2, r2⟩ := call_pick hB (xs (7 * j + 1)) (xs (7 * j + 2)) (xs (7 * j + 3)) h a
    have k9 : h1.1[289]? = some (11, 0) := (by apply tg_fX12_pick : Tg (fX12_pick (some 0) (xs (7 * j + 1)) (xs (7 * j + 2)) (xs (7 * j + 3)))) h v h1 e1 289 (11, 0) t9
    exact ⟨h2, by simp only [dnB_eval, i1, x1, i2, x2, i3, x3, v_0 hs, e1, cv9 k9, e2, if_true, fL_law_j2426, dnP, i7], r2.mono (by omega)⟩
  rw [if_neg c23]
  by_cases c24 : xs (7 * j) &&& 63 = 24
  · rw [if_pos c24]
    obtain ⟨v, h1, h2, e1, e2, r2⟩ := call_flat hB (xs (7 * j + 1)) (xs (7 * j + 2)) (xs (7 * j + 3)) h a
    have k9 : h1.1[289]? = some (11, 0) := (by apply tg_fX12_flat : Tg (fX12_flat (some 0) (xs (7 * j + 1)) (xs (7 * j + 2)) (xs (7 * j + 3)))) h v h1 e1 289 (11, 0) t9
    exact ⟨h2, by simp only [dnB_eval, i1, x1, i2, x2, i3, x3, v_0 hs, e1, cv9 k9, e2, if_true, fL_law_j2426, dnP, i7], r2.mono (by omega)⟩
  rw [if_neg c24]
  by_cases c25 : xs (7 * j) &&& 63 = 25
  · rw [if_pos c25]
    obtain ⟨v, h1, h2, e1, e2, r2⟩ := call_deal hB (xs (7 * j + 1)) (xs (7 * j + 2)) (xs (7 * j + 3)) (xs (7 * j + 4)) h a
    have k9 : h1.1[289]? = some (11, 0) := (by apply tg_fX12_deal : Tg (fX12_deal (some 0) (xs (7 * j + 1)) (xs (7 * j + 2)) (xs (7 * j + 3)) (xs (7 * j + 4)))) h v h1 e1 289 (11, 0) t9
    exact ⟨h2, by simp only [dnB_eval, i1, x1, i2, x2, i3, x3, i4, x4, v_0 hs, e1, cv9 k9, e2, if_true, fL_law_j2426, dnP, i7], r2.mono (by omega)⟩
  rw [if_neg c25]
  by_cases c26 : xs (7 * j) &&& 63 = 26
  · rw [if_pos c26]
    obtain ⟨v, h1, h2, e1, e2, r2⟩ := call_turn hB (xs (7 * j + 1)) (xs (7 * j + 2)) h a
    have k9 : h1.1[289]? = some (11, 0) := (by apply tg_fX12_turn : Tg (fX12_turn (some 0) (xs (7 * j + 1)) (xs (7 * j + 2)))) h v h1 e1 289 (11, 0) t9
    exact ⟨h2, by simp only [dnB_eval, i1, x1, i2, x2, v_0 hs, e1, cv9 k9, e2, if_true, fL_law_j2426, dnP, i7], r2.mono (by omega)⟩
  rw [if_neg c26]
  by_cases c27 : xs (7 * j) &&& 63 = 27
  · rw [if_pos c27]
    obtain ⟨v, h1, h2, e1, e2, r2⟩ := call_times hB (xs (7 * j + 1)) (xs (7 * j + 2)) (xs (7 * j + 3)) h a
    have k9 : h1.1[289]? = some (11, 0) := (by apply tg_fX12_times : Tg (fX12_times (some 0) (xs (7 * j + 1)) (xs (7 * j + 2)) (xs (7 * j + 3)))) h v h1 e1 289 (11, 0) t9
    exact ⟨h2, by simp only [dnB_eval, i1, x1, i2, x2, i3, x3, v_0 hs, e1, cv9 k9, e2, if_true, fL_law_j2426, dnP, i7], r2.mono (by omega)⟩
  rw [if_neg c27]
  by_cases c28 : xs (7 * j) &&& 63 = 28
  · rw [if_pos c28]
    obtain ⟨v, h1, h2, e1, e2, r2⟩ := call_fold hB hB24 (xs (7 * j + 1)) (xs (7 * j + 2)) (xs (7 * j + 3)) (xs (7 * j + 4)) (xs (7 * j + 5)) h a
    have k9 : h1.1[289]? = some (11, 0) := (by apply tg_fX12_fold : Tg (fX12_fold (some 0) (xs (7 * j + 1)) (xs (7 * j + 2)) (xs (7 * j + 3)) (xs (7 * j + 4)) (xs (7 * j + 5)))) h v h1 e1 289 (11, 0) t9
    exact ⟨h2, by simp only [dnB_eval, i1, x1, i2, x2, i3, x3, i4, x4, i5, x5, v_0 hs, e1, cv9 k9, e2, if_true, fL_law_j2426, dnP, i7], r2.mono (by omega)⟩
  rw [if_neg c28]
  by_cases c29 : xs (7 * j) &&& 63 = 29
  · rw [if_pos c29]
    obtain ⟨v, h1, h2, e1, e2, r2⟩ := call_dot hB hB24 (xs (7 * j + 1)) (xs (7 * j + 2)) (xs (7 * j + 3)) (xs (7 * j + 4)) (xs (7 * j + 5)) h a
    have k9 : h1.1[289]? = some (11, 0) := (by apply tg_fX12_dot : Tg (fX12_dot (some 0) (xs (7 * j + 1)) (xs (7 * j + 2)) (xs (7 * j + 3)) (xs (7 * j + 4)) (xs (7 * j + 5)))) h v h1 e1 289 (11, 0) t9
    exact ⟨h2, by simp only [dnB_eval, i1, x1, i2, x2, i3, x3, i4, x4, i5, x5, v_0 hs, e1, cv9 k9, e2, if_true, fL_law_j2426, dnP, i7], r2.mono (by omega)⟩
  rw [if_neg c29]
  by_cases c30 : xs (7 * j) &&& 63 = 30
  · rw [if_pos c30]
    obtain ⟨v, h1, h2, e1, e2, r2⟩ := call_trail (xs (7 * j + 1)) h a
    have k9 : h1.1[289]? = some (11, 0) := (by apply tg_fX12_trail : Tg (fX12_trail (some 0) (xs (7 * j + 1)))) h v h1 e1 289 (11, 0) t9
    exact ⟨h2, by simp only [dnB_eval, i1, x1, v_0 hs, e1, cv9 k9, e2, if_true, fL_law_j2426, dnP, i7], r2.mono (by omega)⟩
  rw [if_neg c30]
  by_cases c31 : xs (7 * j) &&& 63 = 31
  · rw [if_pos c31]
    obtain ⟨v, h1, h2, e1, e2, r2⟩ := call_patch (xs (7 * j + 1)) (xs (7 * j + 2)) (xs (7 * j + 3)) h a
    have k9 : h1.1[289]? = some (11, 0) := (by apply tg_fX12_patch : Tg (fX12_patch (some 0) (xs (7 * j + 1)) (xs (7 * j + 2)) (xs (7 * j + 3)))) h v h1 e1 289 (11, 0) t9
    exact ⟨h2, by simp only [dnB_eval, i1, x1, i2, x2, i3, x3, v_0 hs, e1, cv9 k9, e2, if_true, fL_law_j2426, dnP, i7], r2.mono (by omega)⟩
  rw [if_neg c31]
  by_cases c32 : xs (7 * j) &&& 63 = 32
  · rw [if_pos c32]
    obtain ⟨v, h1, h2, e1, e2, r2⟩ := call_patches (xs (7 * j + 1)) h a
    have k9 : h1.1[289]? = some (11, 0) := (by apply tg_fX12_patches : Tg (fX12_patches (some 0) (xs (7 * j + 1)))) h v h1 e1 289 (11, 0) t9
    exact ⟨h2, by simp only [dnB_eval, i1, x1, v_0 hs, e1, cv9 k9, e2, if_true, fL_law_j2426, dnP, i7], r2.mono (by omega)⟩
  rw [if_neg c32]
  by_cases c33 : xs (7 * j) &&& 63 = 33
  · rw [if_pos c33]
    obtain ⟨v, h1, h2, e1, e2, r2⟩ := call_paint hB (xs (7 * j + 1)) (xs (7 * j + 2)) (xs (7 * j + 3)) (xs (7 * j + 4)) (((((xs (7 * j + 5)) : Int32).toInt64) <<< ((32 : Int32).toInt64 &&& 63)) ||| ((((xs (7 * j + 6)) : Int32).toInt64) &&& 4294967295)) h a
    have k9 : h1.1[289]? = some (11, 0) := (by apply tg_fX12_paint : Tg (fX12_paint (some 0) (xs (7 * j + 1)) (xs (7 * j + 2)) (xs (7 * j + 3)) (xs (7 * j + 4)) (((((xs (7 * j + 5)) : Int32).toInt64) <<< ((32 : Int32).toInt64 &&& 63)) ||| ((((xs (7 * j + 6)) : Int32).toInt64) &&& 4294967295)))) h v h1 e1 289 (11, 0) t9
    exact ⟨h2, by simp only [dnB_eval, i1, x1, i2, x2, i3, x3, i4, x4, i5, x5, i6, x6, v_0 hs, e1, cv9 k9, e2, if_true, fL_law_j2426, dnP, i7], r2.mono (by omega)⟩
  rw [if_neg c33]
  by_cases c34 : xs (7 * j) &&& 63 = 34
  · rw [if_pos c34]
    obtain ⟨v, h1, h2, e1, e2, r2⟩ := call_block (xs (7 * j + 1)) h a
    have k9 : h1.1[289]? = some (11, 0) := (by apply tg_fX12_block : Tg (fX12_block (some 0) (xs (7 * j + 1)))) h v h1 e1 289 (11, 0) t9
    exact ⟨h2, by simp only [dnB_eval, i1, x1, v_0 hs, e1, cv9 k9, e2, if_true, fL_law_j2426, dnP, i7], r2.mono (by omega)⟩
  rw [if_neg c34]
  by_cases c35 : xs (7 * j) &&& 63 = 35
  · rw [if_pos c35]
    obtain ⟨v, h1, h2, e1, e2, r2⟩ := call_lies (xs (7 * j + 1)) (xs (7 * j + 2)) (xs (7 * j + 3)) h a
    have k9 : h1.1[289]? = some (11, 0) := (by apply tg_fX12_lies : Tg (fX12_lies (some 0) (xs (7 * j + 1)) (xs (7 * j + 2)) (xs (7 * j + 3)))) h v h1 e1 289 (11, 0) t9
    exact ⟨h2, by simp only [dnB_eval, i1, x1, i2, x2, i3, x3, v_0 hs, e1, cv9 k9, e2, if_true, fL_law_j2426, dnP, i7], r2.mono (by omega)⟩
  rw [if_neg c35]
  by_cases c36 : xs (7 * j) &&& 63 = 36
  · rw [if_pos c36]
    obtain ⟨v, h1, h2, e1, e2, r2⟩ := call_type B (xs (7 * j + 1)) h a
    have k9 : h1.1[289]? = some (11, 0) := (by apply tg_fX12_type : Tg (fX12_type (some 0) (xs (7 * j + 1)))) h v h1 e1 289 (11, 0) t9
    exact ⟨h2, by simp only [dnB_eval, i1, x1, v_0 hs, e1, cv9 k9, e2, if_true, fL_law_j2426, dnP, i7], r2.mono (by omega)⟩
  rw [if_neg c36]
  by_cases c37 : xs (7 * j) &&& 63 = 37
  · rw [if_pos c37]
    obtain ⟨v, h1, h2, e1, e2, r2⟩ := call_clear B  h a
    have k9 : h1.1[289]? = some (11, 0) := (by apply tg_fX12_clear : Tg (fX12_clear (some 0) )) h v h1 e1 289 (11, 0) t9
    exact ⟨h2, by simp only [dnB_eval, v_0 hs, e1, cv9 k9, e2, if_true, fL_law_j2426, dnP, i7], r2.mono (by omega)⟩
  rw [if_neg c37]
  by_cases c38 : xs (7 * j) &&& 63 = 38
  · rw [if_pos c38]
    obtain ⟨v, h1, h2, e1, e2, r2⟩ := call_plan hB hB128  h a
    have k9 : h1.1[289]? = some (11, 0) := (by apply tg_fX12_plan : Tg (fX12_plan (some 0) )) h v h1 e1 289 (11, 0) t9
    exact ⟨h2, by simp only [dnB_eval, v_0 hs, e1, cv9 k9, e2, if_true, fL_law_j2426, dnP, i7], r2.mono (by omega)⟩
  rw [if_neg c38]
  by_cases c39 : xs (7 * j) &&& 63 = 39
  · rw [if_pos c39]
    obtain ⟨v, h1, h2, e1, e2, r2⟩ := call_least B (xs (7 * j + 1)) (xs (7 * j + 2)) h a
    have k9 : h1.1[289]? = some (11, 0) := (by apply tg_fX12_least : Tg (fX12_least (some 0) (xs (7 * j + 1)) (xs (7 * j + 2)))) h v h1 e1 289 (11, 0) t9
    exact ⟨h2, by simp only [dnB_eval, i1, x1, i2, x2, v_0 hs, e1, cv9 k9, e2, if_true, fL_law_j2426, dnP, i7], r2.mono (by omega)⟩
  rw [if_neg c39]
  by_cases c40 : xs (7 * j) &&& 63 = 40
  · rw [if_pos c40]
    obtain ⟨v, h1, h2, e1, e2, r2⟩ := call_fits B (xs (7 * j + 1)) (xs (7 * j + 2)) h a
    have k9 : h1.1[289]? = some (11, 0) := (by apply tg_fX12_fits : Tg (fX12_fits (some 0) (xs (7 * j + 1)) (xs (7 * j + 2)))) h v h1 e1 289 (11, 0) t9
    exact ⟨h2, by simp only [dnB_eval, i1, x1, i2, x2, v_0 hs, e1, cv9 k9, e2, if_true, fL_law_j2426, dnP, i7], r2.mono (by omega)⟩
  rw [if_neg c40]
  by_cases c41 : xs (7 * j) &&& 63 = 41
  · rw [if_pos c41]
    obtain ⟨v, h1, h2, e1, e2, r2⟩ := call_sees B (xs (7 * j + 1)) (xs (7 * j + 2)) h a
    have k9 : h1.1[289]? = some (11, 0) := (by apply tg_fX12_sees : Tg (fX12_sees (some 0) (xs (7 * j + 1)) (xs (7 * j + 2)))) h v h1 e1 289 (11, 0) t9
    exact ⟨h2, by simp only [dnB_eval, i1, x1, i2, x2, v_0 hs, e1, cv9 k9, e2, if_true, fL_law_j2426, dnP, i7], r2.mono (by omega)⟩
  rw [if_neg c41]
  by_cases c42 : xs (7 * j) &&& 63 = 42
  · rw [if_pos c42]
    obtain ⟨v, h1, h2, e1, e2, r2⟩ := call_forget B  h a
    have k9 : h1.1[289]? = some (11, 0) := (by apply tg_fX12_forget : Tg (fX12_forget (some 0) )) h v h1 e1 289 (11, 0) t9
    exact ⟨h2, by simp only [dnB_eval, v_0 hs, e1, cv9 k9, e2, if_true, fL_law_j2426, dnP, i7], r2.mono (by omega)⟩
  rw [if_neg c42]
  by_cases c43 : xs (7 * j) &&& 63 = 43
  · rw [if_pos c43]
    obtain ⟨v, h1, h2, e1, e2, r2⟩ := call_left B  h a
    have k9 : h1.1[289]? = some (11, 0) := (by apply tg_fX12_left : Tg (fX12_left (some 0) )) h v h1 e1 289 (11, 0) t9
    exact ⟨h2, by simp only [dnB_eval, v_0 hs, e1, cv9 k9, e2, if_true, fL_law_j2426, dnP, i7], r2.mono (by omega)⟩
  rw [if_neg c43]
  by_cases c44 : xs (7 * j) &&& 63 = 44
  · rw [if_pos c44]
    obtain ⟨v, h1, h2, e1, e2, r2⟩ := call_next B  h a
    have k9 : h1.1[289]? = some (11, 0) := (by apply tg_fX12_next : Tg (fX12_next (some 0) )) h v h1 e1 289 (11, 0) t9
    exact ⟨h2, by simp only [dnB_eval, v_0 hs, e1, cv9 k9, e2, if_true, fL_law_j2426, dnP, i7], r2.mono (by omega)⟩
  rw [if_neg c44]
  by_cases c45 : xs (7 * j) &&& 63 = 45
  · rw [if_pos c45]
    obtain ⟨v, h1, h2, e1, e2, r2⟩ := call_keep B (xs (7 * j + 1)) h a
    have k9 : h1.1[289]? = some (11, 0) := (by apply tg_fX12_keep : Tg (fX12_keep (some 0) (xs (7 * j + 1)))) h v h1 e1 289 (11, 0) t9
    exact ⟨h2, by simp only [dnB_eval, i1, x1, v_0 hs, e1, cv9 k9, e2, if_true, fL_law_j2426, dnP, i7], r2.mono (by omega)⟩
  rw [if_neg c45]
  by_cases c46 : xs (7 * j) &&& 63 = 46
  · rw [if_pos c46]
    obtain ⟨v, h1, h2, e1, e2, r2⟩ := call_back B (xs (7 * j + 1)) h a
    have k9 : h1.1[289]? = some (11, 0) := (by apply tg_fX12_back : Tg (fX12_back (some 0) (xs (7 * j + 1)))) h v h1 e1 289 (11, 0) t9
    exact ⟨h2, by simp only [dnB_eval, i1, x1, v_0 hs, e1, cv9 k9, e2, if_true, fL_law_j2426, dnP, i7], r2.mono (by omega)⟩
  rw [if_neg c46]
  by_cases c47 : xs (7 * j) &&& 63 = 47
  · rw [if_pos c47]
    obtain ⟨v, h1, h2, e1, e2, r2⟩ := call_told B  h a
    have k9 : h1.1[289]? = some (11, 0) := (by apply tg_fX12_told : Tg (fX12_told (some 0) )) h v h1 e1 289 (11, 0) t9
    exact ⟨h2, by simp only [dnB_eval, v_0 hs, e1, cv9 k9, e2, (lg_cmp_eq v v).mpr rfl, if_true, fL_law_j2426, dnP, i7], r2.mono (by omega)⟩
  rw [if_neg c47]
  by_cases c48 : xs (7 * j) &&& 63 = 48
  · rw [if_pos c48]
    obtain ⟨v, h1, h2, e1, e2, r2⟩ := call_first B  h a
    have k9 : h1.1[289]? = some (11, 0) := (by apply tg_fX12_first : Tg (fX12_first (some 0) )) h v h1 e1 289 (11, 0) t9
    exact ⟨h2, by simp only [dnB_eval, v_0 hs, e1, cv9 k9, e2, if_true, fL_law_j2426, dnP, i7], r2.mono (by omega)⟩
  rw [if_neg c48]
  by_cases c49 : xs (7 * j) &&& 63 = 49
  · rw [if_pos c49]
    obtain ⟨v, h1, h2, e1, e2, r2⟩ := call_passed B  h a
    have k9 : h1.1[289]? = some (11, 0) := (by apply tg_fX12_passed : Tg (fX12_passed (some 0) )) h v h1 e1 289 (11, 0) t9
    exact ⟨h2, by simp only [dnB_eval, v_0 hs, e1, cv9 k9, e2, if_true, fL_law_j2426, dnP, i7], r2.mono (by omega)⟩
  rw [if_neg c49]
  by_cases c50 : xs (7 * j) &&& 63 = 50
  · rw [if_pos c50]
    obtain ⟨v, h1, h2, e1, e2, r2⟩ := call_refusals B (xs (7 * j + 1)) h a
    have k9 : h1.1[289]? = some (11, 0) := (by apply tg_fX12_refusals : Tg (fX12_refusals (some 0) (xs (7 * j + 1)))) h v h1 e1 289 (11, 0) t9
    exact ⟨h2, by simp only [dnB_eval, i1, x1, v_0 hs, e1, cv9 k9, e2, if_true, fL_law_j2426, dnP, i7], r2.mono (by omega)⟩
  rw [if_neg c50]
  by_cases c51 : xs (7 * j) &&& 63 = 51
  · rw [if_pos c51]
    obtain ⟨v, h1, h2, e1, e2, r2⟩ := call_count B (xs (7 * j + 1)) h a
    have k9 : h1.1[289]? = some (11, 0) := (by apply tg_fX12_count : Tg (fX12_count (some 0) (xs (7 * j + 1)))) h v h1 e1 289 (11, 0) t9
    exact ⟨h2, by simp only [dnB_eval, i1, x1, v_0 hs, e1, cv9 k9, e2, if_true, fL_law_j2426, dnP, i7], r2.mono (by omega)⟩
  rw [if_neg c51]
  by_cases c52 : xs (7 * j) &&& 63 = 52
  · rw [if_pos c52]
    obtain ⟨v, h1, h2, e1, e2, r2⟩ := call_kinds B (xs (7 * j + 1)) h a
    have k9 : h1.1[289]? = some (11, 0) := (by apply tg_fX12_kinds : Tg (fX12_kinds (some 0) (xs (7 * j + 1)))) h v h1 e1 289 (11, 0) t9
    exact ⟨h2, by simp only [dnB_eval, i1, x1, v_0 hs, e1, cv9 k9, e2, if_true, fL_law_j2426, dnP, i7], r2.mono (by omega)⟩
  rw [if_neg c52]
  by_cases c53 : xs (7 * j) &&& 63 = 53
  · rw [if_pos c53]
    obtain ⟨v, h1, h2, e1, e2, r2⟩ := call_digest B  h a
    have k9 : h1.1[289]? = some (11, 0) := (by apply tg_fX12_digest : Tg (fX12_digest (some 0) )) h v h1 e1 289 (11, 0) t9
    exact ⟨h2, by simp only [dnB_eval, v_0 hs, e1, cv9 k9, e2, (lg_cmp_eq v v).mpr rfl, if_true, fL_law_j2426, dnP, i7], r2.mono (by omega)⟩
  rw [if_neg c53]
  exact ⟨h, by simp only [fL_law_j2426, dnP, i7], a.mono (by omega)⟩
theorem law_ok (L : Nat) (xs : Nat → Int32) (hL : L ≤ 3584) : ∃ h1 : dnH, fL_law L xs dnH0 = some (true, h1) := by
  obtain ⟨h, hb, a⟩ := boot_rel
  have KK := it_inv (f := fL_law_b18 L xs (some 0) (some 289)) (Q := fun q _ => q = .inl ()) (fun j u k => u = nI (7 * j) ∧ Rel (16 + 128 * j) k) (L / 7) 1000 0 (by omega) (by omega) ?_ ?_ (nI 0) h ⟨rfl, a⟩
  · obtain ⟨q, h2, b1, rfl⟩ := KK
    rw [nI_0] at b1
    refine ⟨h2, ?_⟩
    have key : fL_law L xs dnH0 = (match bootF dnH0 with | some q => (dnB (dnIt 1000 (fL_law_b18 L xs q.1.1 q.1.2) 0) fun q_ => q_.elim (fun _ => dnP true) (fun v_ => dnP v_)) q.2 | none => none) := by
      unfold fL_law bootF dnB
      cases dnNo 10 dnH0 with
      | none => rfl
      | some q1 =>
        dsimp only
        cases dnCv q1.1 10 (fX12_init q1.1) q1.2 with
        | none => rfl
        | some q2 =>
          dsimp only
          cases dnNo 11 q2.2 with
          | none => rfl
          | some q3 =>
            dsimp only
            cases dnCv q3.1 11 (fX13_init q3.1) q3.2 with
            | none => rfl
            | some q4 => rfl
    rw [key, hb]
    simp only [dnB_eval, b1, Sum.elim_inl, dnP]
  · rintro j u k hj ⟨rfl, ak⟩
    left
    obtain ⟨h2, e, r⟩ := turn_ok (xs := xs) hL (show 7 * j + 7 ≤ L by omega) (show 16 ≤ 16 + 128 * j by omega) (by omega) ak
    exact ⟨_, h2, e, rfl, r⟩
  · rintro u k ⟨rfl, ak⟩
    have hc : Int32.ofNat L - 7 < nI (7 * (L / 7)) := by
      by_cases q : 7 ≤ L
      · have e : Int32.ofNat L - 7 = nI (L - 7) := nI_sub (a := L) (b := 7) q
        rw [e]
        exact (nI_ltI (by omega) (by omega)).mpr (by omega)
      · have : L / 7 = 0 := by omega
        rw [this]
        exact (by decide +kernel : ∀ L, L < 7 → Int32.ofNat L - 7 < nI (7 * 0)) L (by omega)
    exact ⟨.inl (), k, by simp only [fL_law_b18, hc, if_true, dnP], rfl⟩
