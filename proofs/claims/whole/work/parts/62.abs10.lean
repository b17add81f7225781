/-! ABS 10: find, alike, read -/
def lkC (c c2 : Cel) : Bool := lk c.1 c.2.1 c.2.2 c2.1 c2.2.1 c2.2.2
theorem matches_A {h : dnH} {a b i j : Nat} {R Q : Rw} (ha : RowAt h a) (hb : RowAt h b) (hR : RwH h a R) (hQ : RwH h b Q) (hi : i < 12) (hj : j < 12) (hs : (R.2.2 i).1 < 12) (hs2 : (Q.2.2 j).1 < 12) : fX5_matches (some a) (nI i) (some b) (nI j) h = some (lkC (R.2.2 i) (Q.2.2 j), h) := by
  obtain ⟨r1, r2, r3⟩ := hR.2.2 i hi
  obtain ⟨q1, q2, q3⟩ := hQ.2.2 j hj
  have := matches_c ha hb hi hj r1 hs q1 hs2
  rw [r2, r3, q2, q3] at this
  exact this
theorem first_of (F : Nat → Bool) (n : Nat) : (∀ i, i < n → F i = false) ∨ ∃ k, k < n ∧ F k = true ∧ ∀ i, i < k → F i = false := by
  by_cases h : ∃ k, k < n ∧ F k = true
  · obtain ⟨k, hk, e⟩ := h
    obtain ⟨m, m1, m2, m3⟩ := least_of (P := fun k => F k = true) k e
    exact .inr ⟨m, by omega, m2, fun i hi => by simpa using m3 i hi⟩
  · exact .inl (fun i hi => by
      cases q : F i
      · rfl
      · exact absurd ⟨i, hi, q⟩ h)
theorem find_C {h : dnH} {a b n : Nat} {R Q : Rw} (hh : Sh h) (ha : RowAt h a) (hR : RwH h a R) (hQ : RwH h 260 Q) (hn : R.2.1 ≤ 12) (hs : ∀ i, i < 12 → (R.2.2 i).1 < 12) (hs2 : (Q.2.2 0).1 < 12) : (dnIt 1000 (fX6_findValue_b55 (some 259) (some a)) 0 h) = (match (List.range R.2.1).find? (fun i => lkC (R.2.2 i) (Q.2.2 0)) with | some k => some (.inr (nI k), h) | none => some (.inl (), h)) := by
  have step : ∀ i, i < R.2.1 → fX6_findValue_b55 (some 259) (some a) (nI i) h = if lkC (R.2.2 i) (Q.2.2 0) = true then some (.inr (.inr (nI i)), h) else some (.inl (nI (i + 1)), h) := fun i hi => by
    have hc : ¬ (nI R.2.1 ≤ nI i) := fun hc => by have := (nI_leI (a := R.2.1) (b := i) (by omega) (by omega)).mp hc; omega
    have m := matches_A (j := 0) ha (rw260 hh) hR hQ (show i < 12 by omega) (by decide) (hs i (by omega)) hs2
    rw [nI_0] at m
    simp only [fX6_findValue_b55, dnB_eval, rg_i ha, hR.2.1, hc, if_false, g_259_2 hh, rv ha, m, dnP, nI_1]
    generalize lkC (R.2.2 i) (Q.2.2 0) = b
    cases b <;> rfl
  have fin : fX6_findValue_b55 (some 259) (some a) (nI R.2.1) h = some (.inr (.inl ()), h) := by
    simp only [fX6_findValue_b55, dnB_eval, rg_i ha, hR.2.1, Int32.le_refl, if_true, dnP]
  rcases first_of (fun i => lkC (R.2.2 i) (Q.2.2 0)) R.2.1 with hf | ⟨k, hk, h1, h2⟩
  · have e : (List.range R.2.1).find? (fun i => lkC (R.2.2 i) (Q.2.2 0)) = none := by
      rw [List.find?_eq_none]
      intro x hx
      rw [hf x (List.mem_range.mp hx)]
      decide
    rw [e]
    have := dnIt_run (f := fX6_findValue_b55 (some 259) (some a)) (q := .inl ()) (hq := h) R.2.1 1000 (fun i => (nI i, h)) (by omega) (fun i hi => by rw [step i hi, hf i hi]; rfl) fin
    rw [← nI_0]
    exact this
  · have e : (List.range R.2.1).find? (fun i => lkC (R.2.2 i) (Q.2.2 0)) = some k := by
      rw [List.find?_range_eq_some]
      exact ⟨h1, by simpa using hk, fun j hj => by rw [h2 j hj]; rfl⟩
    rw [e]
    have := dnIt_run (f := fX6_findValue_b55 (some 259) (some a)) (q := .inr (nI k)) (hq := h) k 1000 (fun i => (nI i, h)) (by omega) (fun i hi => by rw [step i (by omega), h2 i hi]; rfl) (by rw [step k hk, h1]; rfl)
    rw [← nI_0]
    exact this
theorem find_R {h0 h : dnH} {X : List Nat} {A : Ab} {r : Nat} {x : Cel} (c : RS h0 X h A) (hr : r < 31) (hl : live X A r) (hx : hv h x) (hn : (A.2.2.1 r).2.1 ≤ 12) (hs : ∀ i, i < 12 → ((A.2.2.1 r).2.2 i).1 < 12) (hs2 : x.1 < 12) : (dnIt 1000 (fX13_findAnswer_b50 (some 289) (nI r)) 0 h) = (match (List.range (A.2.2.1 r).2.1).find? (fun i => lkC ((A.2.2.1 r).2.2 i) x) with | some k => some (.inr (nI k), h) | none => some (.inl (), h)) := by
  obtain ⟨x1, x2, x3⟩ := hx
  have step : ∀ i, i < (A.2.2.1 r).2.1 → fX13_findAnswer_b50 (some 289) (nI r) (nI i) h = if lkC ((A.2.2.1 r).2.2 i) x = true then some (.inr (.inr (nI i)), h) else some (.inl (nI (i + 1)), h) := fun i hi => by
    have hc : ¬ (nI (A.2.2.1 r).2.1 ≤ nI i) := fun hc => by have := (nI_leI (a := (A.2.2.1 r).2.1) (b := i) (by omega) (by omega)).mp hc; omega
    have hi2 : i < 12 := by omega
    simp only [fX13_findAnswer_b50, dnB_eval, g_289_7 c.1, len_A c hr hl, hc, if_false, g_289_9 c.1, g_289_10 c.1, g_289_11 c.1, at_r, srt_A c hr hl hi2, num_A c hr hl hi2, rea_A c hr hl hi2, g_289_12 c.1, g_289_13 c.1, g_289_14 c.1, x1, x2, x3, areLike_r (hs i hi2) hs2, dnP, nI_1]
    unfold lkC
    generalize lk ((A.2.2.1 r).2.2 i).1 ((A.2.2.1 r).2.2 i).2.1 ((A.2.2.1 r).2.2 i).2.2 x.1 x.2.1 x.2.2 = b
    cases b <;> rfl
  have fin : fX13_findAnswer_b50 (some 289) (nI r) (nI (A.2.2.1 r).2.1) h = some (.inr (.inl ()), h) := by
    simp only [fX13_findAnswer_b50, dnB_eval, g_289_7 c.1, len_A c hr hl, Int32.le_refl, if_true, dnP]
  rcases first_of (fun i => lkC ((A.2.2.1 r).2.2 i) x) (A.2.2.1 r).2.1 with hf | ⟨k, hk, h1, h2⟩
  · have e : (List.range (A.2.2.1 r).2.1).find? (fun i => lkC ((A.2.2.1 r).2.2 i) x) = none := by
      rw [List.find?_eq_none]
      intro y hy
      rw [hf y (List.mem_range.mp hy)]
      decide
    rw [e]
    have := dnIt_run (f := fX13_findAnswer_b50 (some 289) (nI r)) (q := .inl ()) (hq := h) (A.2.2.1 r).2.1 1000 (fun i => (nI i, h)) (by omega) (fun i hi => by rw [step i hi, hf i hi]; rfl) fin
    rw [← nI_0]
    exact this
  · have e : (List.range (A.2.2.1 r).2.1).find? (fun i => lkC ((A.2.2.1 r).2.2 i) x) = some k := by
      rw [List.find?_range_eq_some]
      exact ⟨h1, by simpa using hk, fun j hj => by rw [h2 j hj]; rfl⟩
    rw [e]
    have := dnIt_run (f := fX13_findAnswer_b50 (some 289) (nI r)) (q := .inr (nI k)) (hq := h) k 1000 (fun i => (nI i, h)) (by omega) (fun i hi => by rw [step i (by omega), h2 i hi]; rfl) (by rw [step k hk, h1]; rfl)
    rw [← nI_0]
    exact this
theorem step_find {B : Nat} (g p s : Int32) (v : Int64) : Step B B (fX6_findValue (some 259) g p s v) (fX13_findAnswer (some 289) g p s v) := by
  intro A w
  cases hg : inB g 0 3
  · exact step_ro (-1) w (fun h0 h c => by simp only [fX6_findValue, hg, dnB_eval, c_isGrid, c_isKind, c_isSort, c_isPlain, r_isGrid, r_isKind, r_isSort, r_isPlain, r_in, dnP, Bool.false_eq_true, if_false, if_true]) (fun q0 q r => by simp only [fX13_findAnswer, hg, dnB_eval, c_isGrid, c_isKind, c_isSort, c_isPlain, r_isGrid, r_isKind, r_isSort, r_isPlain, r_in, dnP, Bool.false_eq_true, if_false, if_true])
  cases hk : inB s 0 11
  · exact step_ro (-1) w (fun h0 h c => by simp only [fX6_findValue, hg, hk, dnB_eval, c_isGrid, c_isKind, c_isSort, c_isPlain, r_isGrid, r_isKind, r_isSort, r_isPlain, r_in, dnP, Bool.false_eq_true, if_false, if_true]) (fun q0 q r => by simp only [fX13_findAnswer, hg, hk, dnB_eval, c_isGrid, c_isKind, c_isSort, c_isPlain, r_isGrid, r_isKind, r_isSort, r_isPlain, r_in, dnP, Bool.false_eq_true, if_false, if_true])
  obtain ⟨s, hs, rfl⟩ := inB_of (n := 11) (by decide) hk
  rcases lookR w g p with ⟨f, f0, -, f2, f3⟩ | ⟨G, q, m, r, hG, hq, hm, hr, rfl, rfl, e1, e2, -, hl, -, hrw, l1, l2⟩
  · obtain ⟨n1, n2⟩ := neg_fault f0
    exact step_ro f w (fun h0 h c => by simp only [fX6_findValue, hg, hk, g_259_0 c.1, sv (st1 c.1), (f2 h0 _ _ h c).1, (f2 h0 _ _ h c).2, Option.elim, dnB_eval, c_isGrid, c_isKind, c_isSort, c_isPlain, r_isGrid, r_isKind, r_isSort, r_isPlain, r_in, dnP, Bool.false_eq_true, if_false, if_true]) (fun q0 q r => by simp only [fX13_findAnswer, hg, hk, v_289 r.1, f3 hg q0 _ q r, n1, dnB_eval, c_isGrid, c_isKind, c_isSort, c_isPlain, r_isGrid, r_isKind, r_isSort, r_isPlain, r_in, dnP, Bool.false_eq_true, if_false, if_true])
  have hss : ∀ i, i < 12 → ((A.2.2.1 r).2.2 i).1 < 12 := fun i hi => (hrw.2.2 i hi).1
  refine ⟨match (List.range (A.2.2.1 r).2.1).find? (fun i => lkC ((A.2.2.1 r).2.2 i) (mkC s v)) with | some k => nI k | none => -9, A, w, fun h0 h c => ?_, fun q0 k r' => ?_⟩
  · obtain ⟨h1, a1, a2, a3⟩ := become_A (rw260 c.1) (show s < 12 by omega) v
    have c1 := c.hand (by decide) (by decide) a2
    have key : dnIt 1000 (fX6_findValue_b55 (some 259) (some (5 + 4 * r))) 0 h1 = (match (List.range (A.2.2.1 r).2.1).find? (fun i => lkC ((A.2.2.1 r).2.2 i) (mkC s v)) with | some k => some (Sum.inr (nI k), h1) | none => some (Sum.inl (), h1)) := find_C (b := 0) (n := 0) c1.1 (row1 c1.1 hr) (c1.row hr hl) a3 hrw.2.1 hss (show s < 12 by omega)
    refine ⟨h1, ?_, c1⟩
    simp only [fX6_findValue, hg, hk, g_259_0 c.1, sv (st1 c.1), l1 h0 _ _ h c, Option.elim, g_259_2 c.1, rv (rw260 c.1), a1, key, dnB_eval, c_isGrid, c_isKind, c_isSort, c_isPlain, r_isGrid, r_isKind, r_isSort, r_isPlain, r_in, dnP, Bool.false_eq_true, if_false, if_true]
    cases (List.range (A.2.2.1 r).2.1).find? (fun i => lkC ((A.2.2.1 r).2.2 i) (mkC s v)) <;> rfl
  · obtain ⟨h1, a1, c1, v1⟩ := makes_A r' (show s < 12 by omega) v
    have key := find_R c1 hr hl v1 hrw.2.1 hss (show s < 12 by omega)
    refine ⟨h1, _, ?_, c1⟩
    simp only [fX13_findAnswer, hg, hk, v_289 r'.1, (l2 q0 _ k r').1, (l2 q0 _ k r').2, a1, key, dnB_eval, c_isGrid, c_isKind, c_isSort, c_isPlain, r_isGrid, r_isKind, r_isSort, r_isPlain, r_in, dnP, Bool.false_eq_true, if_false, if_true]
    cases (List.range (A.2.2.1 r).2.1).find? (fun i => lkC ((A.2.2.1 r).2.2 i) (mkC s v)) <;> rfl

theorem call_find {B : Nat} (g p s : Int32) (v : Int64) : Call B B (fX12_find (some 0) g p s v) (fX13_find (some 289) g p s v) :=
  callA (Nat.le_refl _) (fun h v h1 s1 s2 e => by simp only [fX12_find, dnB_eval, g_0_4 s1, v_259 s1, e, v_0 s2, tally_c s2, dnP]) (fun h v h1 s1 s2 e => by simp only [fX13_find, dnB_eval, v_289 s1, e, v_289 s2, said_r s2, dnP]) (step_find g p s v)

def aI (F : Nat → Bool) : Nat → Int32
  | 0 => 0
  | n + 1 => aI F n + dnZ (F n)
theorem both_A {h0 h : dnH} {X : List Nat} {A : Ab} {r q : Nat} (c : RS h0 X h A) (hr : r < 31) (hl : live X A r) (hq : q < 31) (hlq : live X A q) (h1 : (A.2.2.1 r).2.1 ≤ 12) (h2 : (A.2.2.1 q).2.1 ≤ 12) : fX13_both (some 289) (nI r) (nI q) h = some (nI (min (A.2.2.1 r).2.1 (A.2.2.1 q).2.1), h) := by
  simp only [fX13_both, dnB_eval, g_289_7 c.1, len_A c hr hl, len_A c hq hlq, nI_leI (show (A.2.2.1 q).2.1 < 2 ^ 31 by omega) (show (A.2.2.1 r).2.1 < 2 ^ 31 by omega)]
  by_cases d : (A.2.2.1 q).2.1 ≤ (A.2.2.1 r).2.1
  · simp only [d, if_true, dnB_eval, g_289_7 c.1, len_A c hq hlq, dnP, Nat.min_eq_right d]
  · simp only [d, if_false, dnB_eval, g_289_7 c.1, len_A c hr hl, dnP, Nat.min_eq_left (show (A.2.2.1 r).2.1 ≤ (A.2.2.1 q).2.1 by omega)]
theorem cellsLike_A {h0 h : dnH} {X : List Nat} {A : Ab} {r i q j : Nat} (c : RS h0 X h A) (hr : r < 31) (hl : live X A r) (hi : i < 12) (hq : q < 31) (hlq : live X A q) (hj : j < 12) (hs : ((A.2.2.1 r).2.2 i).1 < 12) (hs2 : ((A.2.2.1 q).2.2 j).1 < 12) : fX13_cellsLike (some 289) (nI (12 * r + i)) (nI (12 * q + j)) h = some (lkC ((A.2.2.1 r).2.2 i) ((A.2.2.1 q).2.2 j), h) := by
  simp only [fX13_cellsLike, dnB_eval, g_289_9 c.1, g_289_10 c.1, g_289_11 c.1, srt_A c hr hl hi, num_A c hr hl hi, rea_A c hr hl hi, srt_A c hq hlq hj, num_A c hq hlq hj, rea_A c hq hlq hj, areLike_r hs hs2, dnP]
  rfl
theorem step_alike {B : Nat} (g p g2 p2 : Int32) : Step B B (fX6_countMatches (some 259) g p g2 p2) (fX13_alikeAnswer (some 289) g p g2 p2) := by
  intro A w
  cases hg : inB g 0 3
  · exact step_ro (-1) w (fun h0 h c => by simp only [fX6_countMatches, hg, dnB_eval, c_isGrid, c_isKind, c_isSort, c_isPlain, r_isGrid, r_isKind, r_isSort, r_isPlain, r_in, dnP, Bool.false_eq_true, if_false, if_true]) (fun q0 q r => by simp only [fX13_alikeAnswer, hg, dnB_eval, c_isGrid, c_isKind, c_isSort, c_isPlain, r_isGrid, r_isKind, r_isSort, r_isPlain, r_in, dnP, Bool.false_eq_true, if_false, if_true])
  cases hk : inB g2 0 3
  · exact step_ro (-1) w (fun h0 h c => by simp only [fX6_countMatches, hg, hk, dnB_eval, c_isGrid, c_isKind, c_isSort, c_isPlain, r_isGrid, r_isKind, r_isSort, r_isPlain, r_in, dnP, Bool.false_eq_true, if_false, if_true]) (fun q0 q r => by simp only [fX13_alikeAnswer, hg, hk, dnB_eval, c_isGrid, c_isKind, c_isSort, c_isPlain, r_isGrid, r_isKind, r_isSort, r_isPlain, r_in, dnP, Bool.false_eq_true, if_false, if_true])
  rcases lookR w g p with ⟨f, f0, -, f2, f3⟩ | ⟨G, q, m, r, hG, hq, hm, hr, rfl, rfl, e1, e2, -, hl, -, hrw, l1, l2⟩
  · obtain ⟨n1, n2⟩ := neg_fault f0
    exact step_ro f w (fun h0 h c => by simp only [fX6_countMatches, hg, hk, g_259_0 c.1, sv (st1 c.1), (f2 h0 _ _ h c).1, (f2 h0 _ _ h c).2, Option.elim, dnB_eval, c_isGrid, c_isKind, c_isSort, c_isPlain, r_isGrid, r_isKind, r_isSort, r_isPlain, r_in, dnP, Bool.false_eq_true, if_false, if_true]) (fun q0 q r => by simp only [fX13_alikeAnswer, fX13_twoRows, hg, hk, v_289 r.1, f3 hg q0 _ q r, n1, dnB_eval, c_isGrid, c_isKind, c_isSort, c_isPlain, r_isGrid, r_isKind, r_isSort, r_isPlain, r_in, dnP, Bool.false_eq_true, if_false, if_true])
  rcases lookR w g2 p2 with ⟨f, f0, -, f2, f3⟩ | ⟨G2, q2, m2, t, hG2, hq2, hm2, ht, rfl, rfl, e12, e22, -, hlt, -, htw, k1, k2⟩
  · obtain ⟨n1, n2⟩ := neg_fault f0
    exact step_ro f w (fun h0 h c => by simp only [fX6_countMatches, hg, hk, g_259_0 c.1, sv (st1 c.1), l1 h0 _ _ h c, (f2 h0 _ _ h c).1, (f2 h0 _ _ h c).2, Option.elim, dnB_eval, c_isGrid, c_isKind, c_isSort, c_isPlain, r_isGrid, r_isKind, r_isSort, r_isPlain, r_in, dnP, Bool.false_eq_true, if_false, if_true]) (fun q0 q r => by simp only [fX13_alikeAnswer, fX13_twoRows, hg, hk, v_289 r.1, (l2 q0 _ q r).1, f3 hk q0 _ q r, n1, dnB_eval, c_isGrid, c_isKind, c_isSort, c_isPlain, r_isGrid, r_isKind, r_isSort, r_isPlain, r_in, dnP, Bool.false_eq_true, if_false, if_true])
  have N1 := hrw.2.1
  have N2 := htw.2.1
  have mn : min (A.2.2.1 r).2.1 (A.2.2.1 t).2.1 ≤ (A.2.2.1 r).2.1 := Nat.min_le_left _ _
  have mn2 : min (A.2.2.1 r).2.1 (A.2.2.1 t).2.1 ≤ (A.2.2.1 t).2.1 := Nat.min_le_right _ _
  have mn3 : min (A.2.2.1 r).2.1 (A.2.2.1 t).2.1 = (A.2.2.1 r).2.1 ∨ min (A.2.2.1 r).2.1 (A.2.2.1 t).2.1 = (A.2.2.1 t).2.1 := by omega
  generalize hN : min (A.2.2.1 r).2.1 (A.2.2.1 t).2.1 = N at mn mn2 mn3
  refine step_ro (aI (fun i => lkC ((A.2.2.1 r).2.2 i) ((A.2.2.1 t).2.2 i)) N) w (fun h0 h c => ?_) (fun q0 k r' => ?_)
  · have key : dnIt 1000 (fX6_countMatches_b76 (some (5 + 4 * r)) (some (5 + 4 * t))) (0, nI 0) h = some (aI (fun i => lkC ((A.2.2.1 r).2.2 i) ((A.2.2.1 t).2.2 i)) N, h) := by
      refine dnIt_run (f := fX6_countMatches_b76 (some (5 + 4 * r)) (some (5 + 4 * t))) (q := aI (fun i => lkC ((A.2.2.1 r).2.2 i) ((A.2.2.1 t).2.2 i)) N) (hq := h) N 1000 (fun i => ((aI (fun i => lkC ((A.2.2.1 r).2.2 i) ((A.2.2.1 t).2.2 i)) i, nI i), h)) (by omega) ?_ ?_
      · intro i hi
        have hc : ¬ (nI (A.2.2.1 r).2.1 ≤ nI i) := fun hc => by have := (nI_leI (a := (A.2.2.1 r).2.1) (b := i) (by omega) (by omega)).mp hc; omega
        have hc2 : ¬ (nI (A.2.2.1 t).2.1 ≤ nI i) := fun hc => by have := (nI_leI (a := (A.2.2.1 t).2.1) (b := i) (by omega) (by omega)).mp hc; omega
        have m := matches_A (row1 c.1 hr) (row1 c.1 ht) (c.row hr hl) (c.row ht hlt) (show i < 12 by omega) (show i < 12 by omega) (hrw.2.2 i (by omega)).1 (htw.2.2 i (by omega)).1
        simp only [fX6_countMatches_b76, dnB_eval, rg_i (row1 c.1 hr), rg_i (row1 c.1 ht), (c.row hr hl).2.1, (c.row ht hlt).2.1, hc, hc2, if_false, rv (row1 c.1 hr), m, fX6_countMatches_j117, dnP, nI_1]
        show _ = some (Sum.inl (aI _ i + dnZ (lkC ((A.2.2.1 r).2.2 i) ((A.2.2.1 t).2.2 i)), nI (i + 1)), h)
        generalize lkC ((A.2.2.1 r).2.2 i) ((A.2.2.1 t).2.2 i) = b
        cases b <;> rfl
      · by_cases d : (A.2.2.1 r).2.1 ≤ N
        · have hc : (nI (A.2.2.1 r).2.1 ≤ nI N) := (nI_leI (a := (A.2.2.1 r).2.1) (b := N) (by omega) (by omega)).mpr d
          simp only [fX6_countMatches_b76, dnB_eval, rg_i (row1 c.1 hr), (c.row hr hl).2.1, hc, if_true, dnP]
        · have hc : ¬ (nI (A.2.2.1 r).2.1 ≤ nI N) := fun hc => d ((nI_leI (a := (A.2.2.1 r).2.1) (b := N) (by omega) (by omega)).mp hc)
          have hc2 : (nI (A.2.2.1 t).2.1 ≤ nI N) := (nI_leI (a := (A.2.2.1 t).2.1) (b := N) (by omega) (by omega)).mpr (by omega)
          simp only [fX6_countMatches_b76, dnB_eval, rg_i (row1 c.1 hr), rg_i (row1 c.1 ht), (c.row hr hl).2.1, (c.row ht hlt).2.1, hc, hc2, if_false, if_true, dnP]
    rw [nI_0] at key
    simp only [fX6_countMatches, hg, hk, g_259_0 c.1, sv (st1 c.1), l1 h0 _ _ h c, k1 h0 _ _ h c, Option.elim, key, dnB_eval, c_isGrid, c_isKind, c_isSort, c_isPlain, r_isGrid, r_isKind, r_isSort, r_isPlain, r_in, dnP, Bool.false_eq_true, if_false, if_true]
  · have key : dnIt 1000 (fX13_alikeAnswer_b58 (some 289) (nI r) (nI t)) (0, nI 0) k = some (aI (fun i => lkC ((A.2.2.1 r).2.2 i) ((A.2.2.1 t).2.2 i)) N, k) := by
      have bt := both_A r' hr hl ht hlt N1 N2
      rw [hN] at bt
      refine dnIt_run (f := fX13_alikeAnswer_b58 (some 289) (nI r) (nI t)) (q := aI (fun i => lkC ((A.2.2.1 r).2.2 i) ((A.2.2.1 t).2.2 i)) N) (hq := k) N 1000 (fun i => ((aI (fun i => lkC ((A.2.2.1 r).2.2 i) ((A.2.2.1 t).2.2 i)) i, nI i), k)) (by omega) ?_ ?_
      · intro i hi
        have hc : ¬ (nI N ≤ nI i) := fun hc => by have := (nI_leI (a := N) (b := i) (by omega) (by omega)).mp hc; omega
        have m := cellsLike_A r' hr hl (show i < 12 by omega) ht hlt (show i < 12 by omega) (hrw.2.2 i (by omega)).1 (htw.2.2 i (by omega)).1
        simp only [fX13_alikeAnswer_b58, dnB_eval, v_289 r'.1, bt, hc, if_false, at_r, m, fX13_alikeAnswer_j101, dnP, nI_1]
        show _ = some (Sum.inl (aI _ i + dnZ (lkC ((A.2.2.1 r).2.2 i) ((A.2.2.1 t).2.2 i)), nI (i + 1)), k)
        generalize lkC ((A.2.2.1 r).2.2 i) ((A.2.2.1 t).2.2 i) = b
        cases b <;> rfl
      · simp only [fX13_alikeAnswer_b58, dnB_eval, v_289 r'.1, bt, Int32.le_refl, if_true, dnP]
    rw [nI_0] at key
    simp only [fX13_alikeAnswer, fX13_twoRows, hg, hk, v_289 r'.1, (l2 q0 _ k r').1, (l2 q0 _ k r').2, (k2 q0 _ k r').1, (k2 q0 _ k r').2, key, dnB_eval, c_isGrid, c_isKind, c_isSort, c_isPlain, r_isGrid, r_isKind, r_isSort, r_isPlain, r_in, dnP, Bool.false_eq_true, if_false, if_true]

theorem call_alike {B : Nat} (g p g2 p2 : Int32) : Call B B (fX12_alike (some 0) g p g2 p2) (fX13_alike (some 289) g p g2 p2) :=
  callA (Nat.le_refl _) (fun h v h1 s1 s2 e => by simp only [fX12_alike, dnB_eval, g_0_4 s1, v_259 s1, e, v_0 s2, tally_c s2, dnP]) (fun h v h1 s1 s2 e => by simp only [fX13_alike, dnB_eval, v_289 s1, e, v_289 s2, said_r s2, dnP]) (step_alike g p g2 p2)
