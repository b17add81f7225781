/-! ABS 19: sees, least, fits, left -/
theorem call_least (B : Nat) (p q : Int32) : Call B B (fX12_least (some 0) p q) (fX13_least (some 289) p q) := by
  intro h a
  have hh := a.1
  have hs : ∀ {v : Int32}, Sh (cnt h 288 v) := fun {v} => cntSh hh
  cases hp : inB p 0 11
  · exact ⟨-1, cnt h 288 (-1), _, by simp only [fX12_least, fX12_least_j28, fX12_least_j29, hp, v_0 hh, tally_c hh, dnB_eval, c_isGrid, c_isKind, c_isSort, c_isPlain, r_isGrid, r_isKind, r_isSort, r_isPlain, r_in, dnP, Bool.false_eq_true, if_false, if_true], by simp only [fX13_least, fX13_least_j27, hp, v_289 hs, said_r hs, dnB_eval, c_isGrid, c_isKind, c_isSort, c_isPlain, r_isGrid, r_isKind, r_isSort, r_isPlain, r_in, dnP, Bool.false_eq_true, if_false, if_true], close0 a (-1)⟩
  cases hq : inB q 0 11
  · exact ⟨-1, cnt h 288 (-1), _, by simp only [fX12_least, fX12_least_j28, fX12_least_j29, hp, hq, v_0 hh, tally_c hh, dnB_eval, c_isGrid, c_isKind, c_isSort, c_isPlain, r_isGrid, r_isKind, r_isSort, r_isPlain, r_in, dnP, Bool.false_eq_true, if_false, if_true], by simp only [fX13_least, fX13_least_j27, hp, hq, v_289 hs, said_r hs, dnB_eval, c_isGrid, c_isKind, c_isSort, c_isPlain, r_isGrid, r_isKind, r_isSort, r_isPlain, r_in, dnP, Bool.false_eq_true, if_false, if_true], close0 a (-1)⟩
  obtain ⟨x, hx, rfl⟩ := inB_of (n := 11) (by decide) hp
  obtain ⟨y, hy, rfl⟩ := inB_of (n := 11) (by decide) hq
  have hset : (2 ^ x ||| 2 ^ y) < 4096 := or_lt (Nat.pow_lt_pow_right (n := 12) (by decide) (by omega)) (by omega)
  have eset : ((1 : Int32) <<< (nI x &&& 31)) ||| (1 <<< (nI y &&& 31)) = nI (2 ^ x ||| 2 ^ y) := by rw [bit_nI (show x < 12 by omega), bit_nI (show y < 12 by omega), nI_or]
  have hlt := lkd_lt (2 ^ x ||| 2 ^ y)
  have hc : cnt h 288 (nI (lkd (2 ^ x ||| 2 ^ y))) = h := cnt_nI (by omega)
  refine ⟨nI (lkd (2 ^ x ||| 2 ^ y)), h, h, ?_, ?_, a⟩
  · simp only [fX12_least, fX12_least_j29, hp, hq, eset, leastC hset, v_0 hh, tally_c hh, hc, dnB_eval, c_isGrid, c_isKind, c_isSort, c_isPlain, r_isGrid, r_isKind, r_isSort, r_isPlain, r_in, dnP, Bool.false_eq_true, if_false, if_true]
  · simp only [fX13_least, hp, hq, eset, leastR hset, dnB_eval, c_isGrid, c_isKind, c_isSort, c_isPlain, r_isGrid, r_isKind, r_isSort, r_isPlain, r_in, dnP, Bool.false_eq_true, if_false, if_true]
theorem call_fits (B : Nat) (p q : Int32) : Call B B (fX12_fits (some 0) p q) (fX13_fits (some 289) p q) := by
  intro h a
  have hh := a.1
  have hs : ∀ {v : Int32}, Sh (cnt h 288 v) := fun {v} => cntSh hh
  cases hp : inB p 0 27
  · exact ⟨-1, cnt h 288 (-1), _, by simp only [fX12_fits, fX12_fits_j14, hp, v_0 hh, tally_c hh, dnB_eval, c_isGrid, c_isKind, c_isSort, c_isPlain, r_isGrid, r_isKind, r_isSort, r_isPlain, r_in, dnP, Bool.false_eq_true, if_false, if_true, c_isAct], by simp only [fX13_fits, fX13_fits_j33, hp, v_289 hs, said_r hs, dnB_eval, c_isGrid, c_isKind, c_isSort, c_isPlain, r_isGrid, r_isKind, r_isSort, r_isPlain, r_in, dnP, Bool.false_eq_true, if_false, if_true, c_isAct], close0 a (-1)⟩
  cases hq : inB q 0 11
  · exact ⟨-1, cnt h 288 (-1), _, by simp only [fX12_fits, fX12_fits_j14, hp, hq, v_0 hh, tally_c hh, dnB_eval, c_isGrid, c_isKind, c_isSort, c_isPlain, r_isGrid, r_isKind, r_isSort, r_isPlain, r_in, dnP, Bool.false_eq_true, if_false, if_true, c_isAct], by simp only [fX13_fits, fX13_fits_j33, hp, hq, v_289 hs, said_r hs, dnB_eval, c_isGrid, c_isKind, c_isSort, c_isPlain, r_isGrid, r_isKind, r_isSort, r_isPlain, r_in, dnP, Bool.false_eq_true, if_false, if_true, c_isAct], close0 a (-1)⟩
  obtain ⟨x, hx, rfl⟩ := inB_of (n := 27) (by decide) hp
  obtain ⟨y, hy, rfl⟩ := inB_of (n := 11) (by decide) hq
  refine ⟨if alw x y = true then 1 else 0, h, h, ?_, ?_, a⟩
  · simp only [fX12_fits, hp, hq, allowsC (show x < 28 by omega) (show y < 12 by omega), dnB_eval, c_isGrid, c_isKind, c_isSort, c_isPlain, r_isGrid, r_isKind, r_isSort, r_isPlain, r_in, dnP, Bool.false_eq_true, if_false, if_true, c_isAct]
    generalize alw x y = b
    cases b <;> rfl
  · simp only [fX13_fits, hp, hq, allowsR (show x < 28 by omega) (show y < 12 by omega), dnB_eval, c_isGrid, c_isKind, c_isSort, c_isPlain, r_isGrid, r_isKind, r_isSort, r_isPlain, r_in, dnP, Bool.false_eq_true, if_false, if_true, c_isAct]
    generalize alw x y = b
    cases b <;> rfl
theorem call_sees (B : Nat) (p q : Int32) : Call B B (fX12_sees (some 0) p q) (fX13_sees (some 289) p q) := fun h a => by
  have hh := a.1
  have hs : ∀ {v : Int32}, Sh (cnt h 288 v) := fun {v} => cntSh hh
  obtain ⟨n, hn, t1, t2, t3⟩ := a.2.2.2.2.2.2.2.2.2.1
  cases hp : inB p 0 27
  · exact ⟨-1, cnt h 288 (-1), _, by simp only [fX12_sees, fX1_observe, hp, g_0_10 hh, v_285 hh, v_0 hh, tally_c hh, dnB_eval, c_isGrid, c_isKind, c_isSort, c_isPlain, r_isGrid, r_isKind, r_isSort, r_isPlain, r_in, dnP, Bool.false_eq_true, if_false, if_true, c_isAct], by simp only [fX13_sees, fX13_sees_j19, hp, v_289 hs, said_r hs, dnB_eval, c_isGrid, c_isKind, c_isSort, c_isPlain, r_isGrid, r_isKind, r_isSort, r_isPlain, r_in, dnP, Bool.false_eq_true, if_false, if_true, c_isAct], close0 a (-1)⟩
  cases hq : inB q 0 1
  · refine ⟨-1, cnt h 288 (-1), _, ?_, by simp only [fX13_sees, fX13_sees_j19, hp, hq, v_289 hs, said_r hs, dnB_eval, c_isGrid, c_isKind, c_isSort, c_isPlain, r_isGrid, r_isKind, r_isSort, r_isPlain, r_in, dnP, Bool.false_eq_true, if_false, if_true, c_isAct], close0 a (-1)⟩
    have h1 : ¬ (0 ≤ q ∧ q ≤ 1) := of_decide_eq_false hq
    by_cases c0 : q < 0
    · simp only [fX12_sees, fX1_observe, hp, g_0_10 hh, v_285 hh, c0, v_0 hh, tally_c hh, dnB_eval, c_isGrid, c_isKind, c_isSort, c_isPlain, r_isGrid, r_isKind, r_isSort, r_isPlain, r_in, dnP, Bool.false_eq_true, if_false, if_true, c_isAct]
    · have c1 : ¬ q ≤ 1 := fun hc => h1 ⟨Int32.not_lt.mp c0, hc⟩
      simp only [fX12_sees, fX1_observe, hp, g_0_10 hh, v_285 hh, c0, c1, v_0 hh, tally_c hh, dnB_eval, c_isGrid, c_isKind, c_isSort, c_isPlain, r_isGrid, r_isKind, r_isSort, r_isPlain, r_in, dnP, Bool.false_eq_true, if_false, if_true, c_isAct]
  obtain ⟨x, hx, rfl⟩ := inB_of (n := 27) (by decide) hp
  obtain ⟨y, hy, rfl⟩ := inB_of (n := 1) (by decide) hq
  have q0 : ¬ nI y < 0 := nI_pos (by omega)
  have q1 : nI y ≤ 1 := (of_decide_eq_true hq).2
  by_cases c6 : n = 6
  · subst c6
    refine ⟨-10, cnt h 288 (-10), _, ?_, ?_, close0 a (-10)⟩
    · simp only [fX12_sees, fX1_observe, hp, g_0_10 hh, v_285 hh, q0, q1, g_285_3 hh, t1, show ¬ (¬ nI 6 = 6) from by decide, v_0 hh, tally_c hh, dnB_eval, c_isGrid, c_isKind, c_isSort, c_isPlain, r_isGrid, r_isKind, r_isSort, r_isPlain, r_in, dnP, Bool.false_eq_true, if_false, if_true, c_isAct]
    · have t2' : (cnt h 288 (-10)).2.1 289 43 = nI 6 := by rw [cntI (by decide), t2]
      simp only [fX13_sees, hp, hq, g_289_43 hs, t2', show ¬ (¬ nI 6 = 6) from by decide, v_289 hs, said_r hs, dnB_eval, c_isGrid, c_isKind, c_isSort, c_isPlain, r_isGrid, r_isKind, r_isSort, r_isPlain, r_in, dnP, Bool.false_eq_true, if_false, if_true, c_isAct]
  · have n6 : ¬ nI n = 6 := fun hc => c6 ((nI_eq (b := 6) (by omega) (by decide)).mp hc)
    have e1 := dnIn_nI (show n < 6 by omega) (by decide)
    have e2 : (nI n).toNatClampNeg = n := nI_clamp (by omega)
    have h1 : Sh (dnSI h 286 n (nI x)) := hh
    have h2 : Sh (dnSI (dnSI h 286 n (nI x)) 287 n (nI y)) := hh
    have h3 : Sh (dnSI (dnSI (dnSI h 286 n (nI x)) 287 n (nI y)) 285 3 (nI (n + 1))) := hh
    have u1 : (dnSI h 286 n (nI x)).2.1 285 3 = nI n := by simp [dnSI, dnUp, t1]
    have u2 : (dnSI (dnSI h 286 n (nI x)) 287 n (nI y)).2.1 285 3 = nI n := by simp [dnSI, dnUp, t1]
    have u3 : (dnSI (dnSI (dnSI h 286 n (nI x)) 287 n (nI y)) 285 3 (nI (n + 1))).2.1 285 3 = nI (n + 1) := by simp [dnSI, dnUp]
    refine ⟨nI (n + 1), dnSI (dnSI (dnSI h 286 n (nI x)) 287 n (nI y)) 285 3 (nI (n + 1)), dnSI (dnSI (dnSI (dnSI (dnSI (dnSI h 286 n (nI x)) 287 n (nI y)) 285 3 (nI (n + 1))) 319 n (nI x)) 320 n (nI y)) 289 43 (nI (n + 1)), ?_, ?_, ?_⟩
    · simp only [fX12_sees, fX1_observe, hp, g_0_10 hh, v_285 hh, q0, q1, g_285_3 hh, t1, n6, not_false_eq_true, g_285_1 hh, t_286 hh, e1, e2, g_285_2 h1, g_285_3 h1, u1, t_287 h1, g_285_3 h2, u2, nI_1, p_285_3 h2, g_285_3 h3, u3, v_0 h3, tally_c h3, cnt_nI (show n + 1 < 2 ^ 31 by omega), dnB_eval, c_isGrid, c_isKind, c_isSort, c_isPlain, r_isGrid, r_isKind, r_isSort, r_isPlain, r_in, dnP, Bool.false_eq_true, if_false, if_true, c_isAct]
    · generalize hk : dnSI (dnSI (dnSI h 286 n (nI x)) 287 n (nI y)) 285 3 (nI (n + 1)) = k at h3
      have w1 : k.2.1 289 43 = nI n := by rw [← hk]; simp [dnSI, dnUp, t2]
      have k1 : Sh (dnSI k 319 n (nI x)) := h3
      have k2 : Sh (dnSI (dnSI k 319 n (nI x)) 320 n (nI y)) := h3
      have k3 : Sh (dnSI (dnSI (dnSI k 319 n (nI x)) 320 n (nI y)) 289 43 (nI (n + 1))) := h3
      have w2 : (dnSI k 319 n (nI x)).2.1 289 43 = nI n := by simp [dnSI, dnUp, w1]
      have w3 : (dnSI (dnSI k 319 n (nI x)) 320 n (nI y)).2.1 289 43 = nI n := by simp [dnSI, dnUp, w1]
      have w4 : (dnSI (dnSI (dnSI k 319 n (nI x)) 320 n (nI y)) 289 43 (nI (n + 1))).2.1 289 43 = nI (n + 1) := by simp [dnSI, dnUp]
      simp only [fX13_sees, hp, hq, g_289_43 h3, w1, n6, not_false_eq_true, g_289_44 h3, t_319 h3, e1, e2, g_289_45 k1, g_289_43 k1, w2, t_320 k1, g_289_43 k2, w3, nI_1, p_289_43 k2, g_289_43 k3, w4, dnB_eval, c_isGrid, c_isKind, c_isSort, c_isPlain, r_isGrid, r_isKind, r_isSort, r_isPlain, r_in, dnP, Bool.false_eq_true, if_false, if_true, c_isAct]
    · refine rel_tg a ((((((eqc_SI (by unfold Pt; decide)).tr (eqc_SI (by unfold Pt; decide))).tr (eqc_SI (by unfold Pt; decide))).tr (eqc_SI (by unfold Pt; decide))).tr (eqc_SI (by unfold Pt; decide))).tr (eqc_SI (by unfold Pt; decide))) rfl ?_ ?_ ?_ ?_
      · simp [dnSI, dnUp]
      · simp [dnSI, dnUp]
      · obtain ⟨m, z1, z2, z3, z4⟩ := a.2.2.2.2.2.2.2.2.1
        exact ⟨m, z1, by simp [dnSI, dnUp, z2], by simp [dnSI, dnUp, z3], fun i hi => by simpa [dnSI, dnUp] using z4 i hi⟩
      · refine ⟨n + 1, by omega, by simp [dnSI, dnUp], by simp [dnSI, dnUp], fun i hi => ?_⟩
        by_cases c : i = n
        · subst c
          exact ⟨x, y, by omega, by omega, by simp [dnSI, dnUp], by simp [dnSI, dnUp], by simp [dnSI, dnUp], by simp [dnSI, dnUp]⟩
        · obtain ⟨a1, a2, y1, y2, y3, y4, y5, y6⟩ := t3 i (by omega)
          exact ⟨a1, a2, y1, y2, by simp [dnSI, dnUp, c, y3], by simp [dnSI, dnUp, c, y4], by simp [dnSI, dnUp, c, y5], by simp [dnSI, dnUp, c, y6]⟩
def orS (F : Nat → Bool) : Nat → Nat
  | 0 => 0
  | n + 1 => if F n then orS F n ||| 2 ^ n else orS F n
theorem orS_lt (F : Nat → Bool) : ∀ n, n ≤ 12 → orS F n < 4096 := by
  intro n
  induction n with
  | zero => intro _; exact (by decide : 0 < 4096)
  | succ n ih =>
    intro hn
    show (if F n then orS F n ||| 2 ^ n else orS F n) < 4096
    split
    · exact or_lt (ih (by omega)) (by omega)
    · exact ih (by omega)
/-- which kinds the observations leave -/
def psb (h : dnH) (k : Nat) : Bool := (List.range (h.2.1 285 3).toNatClampNeg).all (fun i => alw (h.2.1 286 i).toNatClampNeg k == decide (h.2.1 287 i = 1))
theorem isPossible_c {h : dnH} (hh : Sh h) (hg : gsRel h) {k : Nat} (hk : k < 12) : fX1_isPossible (some 285) (nI k) h = some (psb h k, h) := by
  obtain ⟨n, hn, t1, t2, t3⟩ := hg
  have en : (h.2.1 285 3).toNatClampNeg = n := by rw [t1, nI_clamp (by omega)]
  have step : ∀ i, i < n → fX1_isPossible_b2 (some 285) (nI k) (nI i) h = if (alw (h.2.1 286 i).toNatClampNeg k == decide (h.2.1 287 i = 1)) = true then some (.inl (nI (i + 1)), h) else some (.inr (.inr false), h) := fun i hi => by
    obtain ⟨a1, a2, y1, y2, y3, y4, y5, y6⟩ := t3 i hi
    have hc : ¬ (nI n ≤ nI i) := fun hc => by have := (nI_leI (a := n) (b := i) (by omega) (by omega)).mp hc; omega
    have e1 := dnIn_nI (show i < 6 by omega) (by decide)
    have e2 : (nI i).toNatClampNeg = i := nI_clamp (by omega)
    have e3 : (h.2.1 286 i).toNatClampNeg = a1 := by rw [y3, nI_clamp (by omega)]
    rw [e3, y5]
    simp only [fX1_isPossible_b2, fX1_isPossible_j35, dnB_eval, g_285_3 hh, t1, hc, if_false, g_285_1 hh, a_286 hh, e1, e2, if_true, y3, allowsC y1 hk, dnP, g_285_2 hh, a_287 hh, y5, nI_1]
    generalize alw a1 k = b
    by_cases q : nI a2 = 1
    · simp only [q, not_true_eq_false, if_false, decide_true]
      cases b <;> rfl
    · simp only [q, not_false_eq_true, if_true, decide_false]
      cases b <;> rfl
  have fin : fX1_isPossible_b2 (some 285) (nI k) (nI n) h = some (.inr (.inl ()), h) := by
    simp only [fX1_isPossible_b2, dnB_eval, g_285_3 hh, t1, Int32.le_refl, if_true, dnP]
  unfold psb
  rw [en]
  rcases first_of (fun i => !(alw (h.2.1 286 i).toNatClampNeg k == decide (h.2.1 287 i = 1))) n with hf | ⟨m, hm, h1, h2⟩
  · have hall : ∀ i, i < n → (alw (h.2.1 286 i).toNatClampNeg k == decide (h.2.1 287 i = 1)) = true := fun i hi => by simpa using hf i hi
    have e : (List.range n).all (fun i => alw (h.2.1 286 i).toNatClampNeg k == decide (h.2.1 287 i = 1)) = true := List.all_eq_true.mpr (fun i hi => hall i (List.mem_range.mp hi))
    have := dnIt_run (f := fX1_isPossible_b2 (some 285) (nI k)) (q := .inl ()) (hq := h) n 1000 (fun i => (nI i, h)) (by omega) (fun i hi => by rw [step i hi, hall i hi]; rfl) fin
    have this : dnIt 1000 (fX1_isPossible_b2 (some 285) (nI k)) 0 h = some (.inl (), h) := this
    simp only [fX1_isPossible, dnB_eval, this, Sum.elim_inl, dnP, e]
  · have hno : (alw (h.2.1 286 m).toNatClampNeg k == decide (h.2.1 287 m = 1)) = false := by simpa using h1
    have hlo : ∀ i, i < m → (alw (h.2.1 286 i).toNatClampNeg k == decide (h.2.1 287 i = 1)) = true := fun i hi => by simpa using h2 i hi
    have e : (List.range n).all (fun i => alw (h.2.1 286 i).toNatClampNeg k == decide (h.2.1 287 i = 1)) = false := by
      rw [List.all_eq_false]
      exact ⟨m, List.mem_range.mpr hm, by rw [hno]; decide⟩
    have := dnIt_run (f := fX1_isPossible_b2 (some 285) (nI k)) (q := .inr false) (hq := h) m 1000 (fun i => (nI i, h)) (by omega) (fun i hi => by rw [step i (by omega), hlo i hi]; rfl) (by rw [step m hm, hno]; rfl)
    have this : dnIt 1000 (fX1_isPossible_b2 (some 285) (nI k)) 0 h = some (.inr false, h) := this
    simp only [fX1_isPossible, dnB_eval, this, Sum.elim_inr, dnP, e]
theorem possible_c {h : dnH} (hh : Sh h) (hg : gsRel h) : fX1_possibleKinds (some 285) h = some (nI (orS (psb h) 12), h) := by
  have key : dnIt 1000 (fX1_possibleKinds_b4 (some 285)) (0, 0) h = some (nI (orS (psb h) 12), h) := by
    refine dnIt_run (f := fX1_possibleKinds_b4 (some 285)) (q := nI (orS (psb h) 12)) (hq := h) 12 1000 (fun i => ((nI (orS (psb h) i), nI i), h)) (by decide) ?_ ?_
    · intro i hi
      have hc : ¬ ((12 : Int32) ≤ nI i) := fun hc => by have := (nI_leI (a := 12) (b := i) (by omega) (by omega)).mp hc; omega
      simp only [fX1_possibleKinds_b4, fX1_possibleKinds_j26, hc, if_false, dnB_eval, v_285 hh, isPossible_c hh hg hi, bit_nI hi, dnP, nI_1]
      show _ = some (Sum.inl (nI (if psb h i = true then orS (psb h) i ||| 2 ^ i else orS (psb h) i), nI (i + 1)), h)
      cases psb h i
      · simp only [Bool.false_eq_true, if_false]
        show some (Sum.inl (nI (orS (psb h) i) ||| nI 0, nI (i + 1)), h) = _
        rw [nI_or, Nat.or_zero]
      · simp only [if_true, nI_or]
        rfl
    · simp only [fX1_possibleKinds_b4, show (12 : Int32) ≤ nI 12 by decide, if_true, dnP]
  simp only [fX1_possibleKinds, dnB_eval, key, dnP]
theorem leftSet_r {h : dnH} (hh : Sh h) (hg : gsRel h) : fX13_leftSet (some 289) h = some (nI (orS (psb h) 12), h) := by
  obtain ⟨n, hn, t1, t2, t3⟩ := hg
  have en : (h.2.1 285 3).toNatClampNeg = n := by rw [t1, nI_clamp (by omega)]
  have inner : ∀ (s : Int32) (k : Nat), k < 12 → dnIt 1000 (fX13_leftSet_b15 (some 289) s (nI k)) (true, 0) h = some (psb h k, h) := fun s k hk => by
    have KK := it_inv (f := fX13_leftSet_b15 (some 289) s (nI k)) (Q := fun b g => g = h ∧ b = psb h k) (fun i st g => g = h ∧ st = ((List.range i).all (fun i => alw (h.2.1 286 i).toNatClampNeg k == decide (h.2.1 287 i = 1)), nI i)) n 1000 0 (by omega) (by omega) ?_ ?_ (true, 0) h ⟨rfl, rfl⟩
    · obtain ⟨b, g, e, rfl, rfl⟩ := KK
      exact e
    · rintro i ⟨b, x⟩ g hi ⟨rfl, hx⟩
      left
      obtain ⟨a1, a2, y1, y2, y3, y4, y5, y6⟩ := t3 i hi
      have hc : ¬ (nI n ≤ nI i) := fun hc => by have := (nI_leI (a := n) (b := i) (by omega) (by omega)).mp hc; omega
      have e1 := dnIn_nI (show i < 6 by omega) (by decide)
      have e2 : (nI i).toNatClampNeg = i := nI_clamp (by omega)
      have e3 : (g.2.1 286 i).toNatClampNeg = a1 := by rw [y3, nI_clamp (by omega)]
      refine ⟨_, g, ?_, rfl, rfl⟩
      rw [hx, List.range_succ, List.all_append, List.all_cons, List.all_nil, Bool.and_true, e3, y5]
      generalize (List.range i).all (fun i => alw (g.2.1 286 i).toNatClampNeg k == decide (g.2.1 287 i = 1)) = b0
      cases b0
      · simp only [fX13_leftSet_b15, fX13_leftSet_j62, fX13_leftSet_j63, dnB_eval, g_289_43 hh, t2, hc, Bool.false_eq_true, if_false, dnP, nI_1, Bool.false_and]
      · simp only [fX13_leftSet_b15, fX13_leftSet_j55, fX13_leftSet_j62, fX13_leftSet_j63, dnB_eval, g_289_43 hh, t2, hc, if_true, if_false, g_289_44 hh, a_319 hh, e1, e2, y4, allowsR y1 hk, dnP, g_289_45 hh, a_320 hh, y6, nI_1, Bool.true_and]
        generalize alw a1 k = b
        by_cases q : nI a2 = 1
        · simp only [q, not_true_eq_false, if_false, decide_true]
          cases b <;> rfl
        · simp only [q, not_false_eq_true, if_true, decide_false]
          cases b <;> rfl
    · rintro ⟨b, x⟩ g ⟨rfl, hx⟩
      refine ⟨_, g, ?_, rfl, rfl⟩
      rw [hx]
      unfold psb
      rw [en]
      simp only [fX13_leftSet_b15, dnB_eval, g_289_43 hh, t2, Int32.le_refl, if_true, dnP]
  have key : dnIt 1000 (fX13_leftSet_b4 (some 289)) (0, 0) h = some (nI (orS (psb h) 12), h) := by
    refine dnIt_run (f := fX13_leftSet_b4 (some 289)) (q := nI (orS (psb h) 12)) (hq := h) 12 1000 (fun i => ((nI (orS (psb h) i), nI i), h)) (by decide) ?_ ?_
    · intro i hi
      have hc : ¬ ((11 : Int32) < nI i) := fun hc => by have := (nI_ltI (a := 11) (b := i) (by omega) (by omega)).mp hc; omega
      simp only [fX13_leftSet_b4, fX13_leftSet_j82, hc, if_false, dnB_eval, inner _ i hi, bit_nI hi, dnP, nI_1]
      show _ = some (Sum.inl (nI (if psb h i = true then orS (psb h) i ||| 2 ^ i else orS (psb h) i), nI (i + 1)), h)
      cases psb h i
      · simp only [Bool.false_eq_true, if_false]
        show some (Sum.inl (nI (orS (psb h) i) ||| nI 0, nI (i + 1)), h) = _
        rw [nI_or, Nat.or_zero]
      · simp only [if_true, nI_or]
        rfl
    · simp only [fX13_leftSet_b4, show (11 : Int32) < nI 12 by decide, if_true, dnP]
  simp only [fX13_leftSet, dnB_eval, key, dnP]
theorem call_left (B : Nat) : Call B B (fX12_left (some 0)) (fX13_left (some 289)) := fun h a => by
  have hg := a.2.2.2.2.2.2.2.2.2.1
  exact ⟨nI (orS (psb h) 12), h, h, by simp only [fX12_left, dnB_eval, g_0_10 a.1, v_285 a.1, possible_c a.1 hg, dnP], by simp only [fX13_left, dnB_eval, v_289 a.1, leftSet_r a.1 hg, dnP], a⟩
