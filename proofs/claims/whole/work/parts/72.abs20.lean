/-! ABS 20: next -/
def bt (s k : Nat) : Int32 := (nI s >>> (nI k &&& 31)) &&& 1
theorem and1_32 (v : Int32) : v &&& 1 = 0 ∨ v &&& 1 = 1 := by
  have h : (v &&& 1).toBitVec.toNat = v.toBitVec.toNat % 2 := by
    rw [Int32.toBitVec_and, BitVec.toNat_and]
    exact Nat.and_one_is_mod _
  rcases Nat.mod_two_eq_zero_or_one v.toBitVec.toNat with e | e
  · left
    exact Int32.toBitVec_inj.mp (BitVec.eq_of_toNat_eq (by rw [h, e]; rfl))
  · right
    exact Int32.toBitVec_inj.mp (BitVec.eq_of_toNat_eq (by rw [h, e]; rfl))
theorem bt_z (s k : Nat) : bt s k = dnZ (decide (bt s k = 1)) := by
  rcases and1_32 (nI s >>> (nI k &&& 31)) with e | e
  · have e : bt s k = 0 := e
    rw [e]; rfl
  · have e : bt s k = 1 := e
    rw [e]; rfl
def btF (s k : Nat) : Bool := decide (bt s k = 1)
theorem bc_0 : ∀ n, n < 512 → (fJ6_bitCount_0f7a4 (nI (0 + n)) dnH0).map Prod.fst = some (aI (btF (0 + n)) 12) := by decide +kernel
theorem bc_1 : ∀ n, n < 512 → (fJ6_bitCount_0f7a4 (nI (512 + n)) dnH0).map Prod.fst = some (aI (btF (512 + n)) 12) := by decide +kernel
theorem bc_2 : ∀ n, n < 512 → (fJ6_bitCount_0f7a4 (nI (1024 + n)) dnH0).map Prod.fst = some (aI (btF (1024 + n)) 12) := by decide +kernel
theorem bc_3 : ∀ n, n < 512 → (fJ6_bitCount_0f7a4 (nI (1536 + n)) dnH0).map Prod.fst = some (aI (btF (1536 + n)) 12) := by decide +kernel
theorem bc_4 : ∀ n, n < 512 → (fJ6_bitCount_0f7a4 (nI (2048 + n)) dnH0).map Prod.fst = some (aI (btF (2048 + n)) 12) := by decide +kernel
theorem bc_5 : ∀ n, n < 512 → (fJ6_bitCount_0f7a4 (nI (2560 + n)) dnH0).map Prod.fst = some (aI (btF (2560 + n)) 12) := by decide +kernel
theorem bc_6 : ∀ n, n < 512 → (fJ6_bitCount_0f7a4 (nI (3072 + n)) dnH0).map Prod.fst = some (aI (btF (3072 + n)) 12) := by decide +kernel
theorem bc_7 : ∀ n, n < 512 → (fJ6_bitCount_0f7a4 (nI (3584 + n)) dnH0).map Prod.fst = some (aI (btF (3584 + n)) 12) := by decide +kernel
theorem bc_all {n : Nat} (hn : n < 4096) : (fJ6_bitCount_0f7a4 (nI n) dnH0).map Prod.fst = some (aI (btF n) 12) := by
  rcases (by omega : n / 512 = 0 ∨ n / 512 = 1 ∨ n / 512 = 2 ∨ n / 512 = 3 ∨ n / 512 = 4 ∨ n / 512 = 5 ∨ n / 512 = 6 ∨ n / 512 = 7) with e | e | e | e | e | e | e | e
  · have := bc_0 (n - 0) (by omega)
    rw [show 0 + (n - 0) = n by omega] at this
    exact this
  · have := bc_1 (n - 512) (by omega)
    rw [show 512 + (n - 512) = n by omega] at this
    exact this
  · have := bc_2 (n - 1024) (by omega)
    rw [show 1024 + (n - 1024) = n by omega] at this
    exact this
  · have := bc_3 (n - 1536) (by omega)
    rw [show 1536 + (n - 1536) = n by omega] at this
    exact this
  · have := bc_4 (n - 2048) (by omega)
    rw [show 2048 + (n - 2048) = n by omega] at this
    exact this
  · have := bc_5 (n - 2560) (by omega)
    rw [show 2560 + (n - 2560) = n by omega] at this
    exact this
  · have := bc_6 (n - 3072) (by omega)
    rw [show 3072 + (n - 3072) = n by omega] at this
    exact this
  · have := bc_7 (n - 3584) (by omega)
    rw [show 3584 + (n - 3584) = n by omega] at this
    exact this
theorem bitCount_c {n : Nat} (hn : n < 4096) : fJ6_bitCount_0f7a4 (nI n) = dnP (aI (btF n) 12) := Hf.val (by unfold fJ6_bitCount_0f7a4; exact Hf.pure) (bc_all hn)
def cN (F : Nat → Bool) : Nat → Nat
  | 0 => 0
  | n + 1 => cN F n + (if F n then 1 else 0)
theorem aI_nI (F : Nat → Bool) : ∀ n, aI F n = nI (cN F n) := by
  intro n
  induction n with
  | zero => rfl
  | succ n ih =>
    show aI F n + dnZ (F n) = nI (cN F n + (if F n then 1 else 0))
    rw [ih, ← nI_add]
    cases F n <;> rfl
theorem cN_le (F : Nat → Bool) : ∀ n, cN F n ≤ n := by
  intro n
  induction n with
  | zero => exact Nat.le_refl _
  | succ n ih =>
    show cN F n + (if F n then 1 else 0) ≤ n + 1
    split <;> omega
theorem cN_sub {F G : Nat → Bool} (h : ∀ k, F k = true → G k = true) : ∀ n, cN F n ≤ cN G n := by
  intro n
  induction n with
  | zero => exact Nat.le_refl _
  | succ n ih =>
    show cN F n + (if F n then 1 else 0) ≤ cN G n + (if G n then 1 else 0)
    cases hf : F n
    · simp only [Bool.false_eq_true, if_false]
      omega
    · rw [h n hf]
      simp only [if_true]
      omega
def bsN (pt : Nat → Nat) (s0 : Nat) : Nat → Int32 × Nat
  | 0 => (-9, s0)
  | a + 1 => if (bsN pt s0 a).2 ≤ pt a then bsN pt s0 a else (nI a, pt a)
theorem bs_eq {pt : Nat → Nat} {s t : Nat} (h1 : pt 0 < s) (h2 : pt 0 < t) : ∀ a, bsN pt s (a + 1) = bsN pt t (a + 1) := by
  intro a
  induction a with
  | zero =>
    show (if s ≤ pt 0 then _ else _) = (if t ≤ pt 0 then _ else _)
    rw [if_neg (by omega), if_neg (by omega)]
  | succ a ih =>
    show (if (bsN pt s (a + 1)).2 ≤ pt (a + 1) then bsN pt s (a + 1) else _) = (if (bsN pt t (a + 1)).2 ≤ pt (a + 1) then bsN pt t (a + 1) else _)
    rw [ih]
theorem bs_lt {pt : Nat → Nat} {s : Nat} (hs : s < 2 ^ 31) (hp : ∀ a, pt a < 2 ^ 31) : ∀ a, (bsN pt s a).2 < 2 ^ 31 := by
  intro a
  induction a with
  | zero => exact hs
  | succ a ih =>
    show (if (bsN pt s a).2 ≤ pt a then bsN pt s a else (nI a, pt a)).2 < 2 ^ 31
    split
    · exact ih
    · exact hp a
theorem bs_ans {pt : Nat → Nat} {s : Nat} : ∀ a, (bsN pt s a).1 = -9 ∨ ∃ k, k < a ∧ (bsN pt s a).1 = nI k := by
  intro a
  induction a with
  | zero => exact .inl rfl
  | succ a ih =>
    show (if (bsN pt s a).2 ≤ pt a then bsN pt s a else (nI a, pt a)).1 = -9 ∨ ∃ k, k < a + 1 ∧ (if (bsN pt s a).2 ≤ pt a then bsN pt s a else (nI a, pt a)).1 = nI k
    split
    · rcases ih with e | ⟨k, hk, e⟩
      · exact .inl e
      · exact .inr ⟨k, by omega, e⟩
    · exact .inr ⟨a, by omega, rfl⟩
/-- how many kinds of the set an act takes -/
def tkF (s a k : Nat) : Bool := btF s k && alw a k
theorem allowing_c {s a : Nat} (ha : a < 28) (h : dnH) : fX1_kindsAllowing (nI a) (nI s) h = some (nI (cN (tkF s a) 12), h) := by
  have key : dnIt 1000 (fX1_kindsAllowing_b4 (nI a) (nI s)) (0, 0) h = some (aI (tkF s a) 12, h) := by
    refine dnIt_run (f := fX1_kindsAllowing_b4 (nI a) (nI s)) (q := aI (tkF s a) 12) (hq := h) 12 1000 (fun i => ((aI (tkF s a) i, nI i), h)) (by decide) ?_ ?_
    · intro i hi
      have hc : ¬ ((12 : Int32) ≤ nI i) := fun hc => by have := (nI_leI (a := 12) (b := i) (by omega) (by omega)).mp hc; omega
      show fX1_kindsAllowing_b4 (nI a) (nI s) (aI (tkF s a) i, nI i) h = some (Sum.inl (aI (tkF s a) i + dnZ (decide (bt s i = 1) && alw a i), nI (i + 1)), h)
      by_cases q : bt s i = 1
      · have q' : (nI s >>> (nI i &&& 31)) &&& 1 = 1 := q
        simp only [fX1_kindsAllowing_b4, fX1_kindsAllowing_j32, fX1_kindsAllowing_j33, hc, if_false, q', not_true_eq_false, dnB_eval, allowsC ha hi, dnP, nI_1, q, decide_true, Bool.true_and]
        cases alw a i <;> rfl
      · have q' : ¬ (nI s >>> (nI i &&& 31)) &&& 1 = 1 := q
        simp only [fX1_kindsAllowing_b4, fX1_kindsAllowing_j32, fX1_kindsAllowing_j33, hc, if_false, q', not_false_eq_true, if_true, dnP, nI_1, q, decide_false, Bool.false_and]
    · simp only [fX1_kindsAllowing_b4, show (12 : Int32) ≤ nI 12 by decide, if_true, dnP]
  simp only [fX1_kindsAllowing, dnB_eval, key, dnP, aI_nI]
theorem allowing_r {s a : Nat} (ha : a < 28) (h : dnH) (x y z : Int32) : dnIt 1000 (fX13_next_b61 (some 289) (nI s) x y z (nI a)) (0, 0) h = some (nI (cN (tkF s a) 12), h) := by
  rw [← aI_nI]
  refine dnIt_run (f := fX13_next_b61 (some 289) (nI s) x y z (nI a)) (q := aI (tkF s a) 12) (hq := h) 12 1000 (fun i => ((aI (tkF s a) i, nI i), h)) (by decide) ?_ ?_
  · intro i hi
    have hc : ¬ ((11 : Int32) < nI i) := fun hc => by have := (nI_ltI (a := 11) (b := i) (by omega) (by omega)).mp hc; omega
    show fX13_next_b61 (some 289) (nI s) x y z (nI a) (aI (tkF s a) i, nI i) h = some (Sum.inl (aI (tkF s a) i + dnZ (decide (bt s i = 1) && alw a i), nI (i + 1)), h)
    by_cases q : bt s i = 1
    · have q' : (nI s >>> (nI i &&& 31)) &&& 1 = 1 := q
      simp only [fX13_next_b61, fX13_next_j94, fX13_next_j95, hc, if_false, q', not_true_eq_false, dnB_eval, allowsR ha hi, dnP, nI_1, q, decide_true, Bool.true_and]
      cases alw a i <;> rfl
    · have q' : ¬ (nI s >>> (nI i &&& 31)) &&& 1 = 1 := q
      simp only [fX13_next_b61, fX13_next_j94, fX13_next_j95, hc, if_false, q', not_false_eq_true, if_true, dnP, nI_1, q, decide_false, Bool.false_and]
  · simp only [fX13_next_b61, show (11 : Int32) < nI 12 by decide, if_true, dnP]
def ptN (s n a : Nat) : Nat := max (cN (tkF s a) 12) (n - cN (tkF s a) 12)
theorem next_c {h : dnH} {s n : Nat} (hn : n ≤ 12) (ht : ∀ a, cN (tkF s a) 12 ≤ n) : dnIt 1000 (fX1_bestAct_b28 (some 285) (nI s) (nI n)) (-9, 13, 0) h = some (((bsN (ptN s n) 13 28).1, nI (bsN (ptN s n) 13 28).2), h) := by
  have hp : ∀ a, ptN s n a < 2 ^ 31 := fun a => by
    have := ht a
    unfold ptN
    omega
  have hb := bs_lt (pt := ptN s n) (s := 13) (by decide) hp
  refine dnIt_run (f := fX1_bestAct_b28 (some 285) (nI s) (nI n)) (q := ((bsN (ptN s n) 13 28).1, nI (bsN (ptN s n) 13 28).2)) (hq := h) 28 1000 (fun i => (((bsN (ptN s n) 13 i).1, nI (bsN (ptN s n) 13 i).2, nI i), h)) (by decide) ?_ ?_
  · intro i hi
    have hc : ¬ ((28 : Int32) ≤ nI i) := fun hc => by have := (nI_leI (a := 28) (b := i) (by omega) (by omega)).mp hc; omega
    have t := ht i
    have mx : fJ9_max_7cf53 (nI (cN (tkF s i) 12)) (nI n - nI (cN (tkF s i) 12)) = dnP (nI (ptN s n i)) := by
      rw [nI_sub t]
      unfold fJ9_max_7cf53 ptN
      by_cases q : cN (tkF s i) 12 < n - cN (tkF s i) 12
      · rw [if_pos ((nI_ltI (by omega) (by omega)).mpr q), Nat.max_eq_right (by omega)]
      · rw [if_neg (fun hc => q ((nI_ltI (by omega) (by omega)).mp hc)), Nat.max_eq_left (by omega)]
    show _ = some (Sum.inl ((if (bsN (ptN s n) 13 i).2 ≤ ptN s n i then bsN (ptN s n) 13 i else (nI i, ptN s n i)).1, nI (if (bsN (ptN s n) 13 i).2 ≤ ptN s n i then bsN (ptN s n) 13 i else (nI i, ptN s n i)).2, nI (i + 1)), h)
    simp only [fX1_bestAct_b28, fX1_bestAct_j68, hc, if_false, dnB_eval, allowing_c hi, mx, dnP, nI_leI (hb i) (hp i), nI_1]
    split <;> rfl
  · simp only [fX1_bestAct_b28, show (28 : Int32) ≤ nI 28 by decide, if_true, dnP]
theorem next_r {h : dnH} {s n : Nat} (hn : n ≤ 12) (ht : ∀ a, cN (tkF s a) 12 ≤ n) : dnIt 1000 (fX13_next_b48 (some 289) (nI s) (nI n)) (-9, nI (n + 1), 0) h = some (((bsN (ptN s n) (n + 1) 28).1, nI (bsN (ptN s n) (n + 1) 28).2), h) := by
  have hp : ∀ a, ptN s n a < 2 ^ 31 := fun a => by
    have := ht a
    unfold ptN
    omega
  have hb := bs_lt (pt := ptN s n) (s := n + 1) (by omega) hp
  refine dnIt_run (f := fX13_next_b48 (some 289) (nI s) (nI n)) (q := ((bsN (ptN s n) (n + 1) 28).1, nI (bsN (ptN s n) (n + 1) 28).2)) (hq := h) 28 1000 (fun i => (((bsN (ptN s n) (n + 1) i).1, nI (bsN (ptN s n) (n + 1) i).2, nI i), h)) (by decide) ?_ ?_
  · intro i hi
    have hc : ¬ ((28 : Int32) ≤ nI i) := fun hc => by have := (nI_leI (a := 28) (b := i) (by omega) (by omega)).mp hc; omega
    have t := ht i
    have fin : ∀ v : Int32, v = nI (ptN s n i) → fX13_next_j122 (some 289) (nI s) (nI n) (bsN (ptN s n) (n + 1) i).1 (nI (bsN (ptN s n) (n + 1) i).2) (nI i) v h = some (Sum.inl ((if (bsN (ptN s n) (n + 1) i).2 ≤ ptN s n i then bsN (ptN s n) (n + 1) i else (nI i, ptN s n i)).1, nI (if (bsN (ptN s n) (n + 1) i).2 ≤ ptN s n i then bsN (ptN s n) (n + 1) i else (nI i, ptN s n i)).2, nI (i + 1)), h) := fun v hv => by
      subst hv
      simp only [fX13_next_j122, fX13_next_j137, fX13_next_j152, nI_leI (hb i) (hp i), dnP, nI_1]
      split <;> rfl
    show fX13_next_b48 (some 289) (nI s) (nI n) ((bsN (ptN s n) (n + 1) i).1, nI (bsN (ptN s n) (n + 1) i).2, nI i) h = some (Sum.inl ((if (bsN (ptN s n) (n + 1) i).2 ≤ ptN s n i then bsN (ptN s n) (n + 1) i else (nI i, ptN s n i)).1, nI (if (bsN (ptN s n) (n + 1) i).2 ≤ ptN s n i then bsN (ptN s n) (n + 1) i else (nI i, ptN s n i)).2, nI (i + 1)), h)
    simp only [fX13_next_b48, hc, if_false, dnB_eval, allowing_r hi, nI_sub t, nI_leI (show cN (tkF s i) 12 < 2 ^ 31 by omega) (show n - cN (tkF s i) 12 < 2 ^ 31 by omega)]
    by_cases q : cN (tkF s i) 12 ≤ n - cN (tkF s i) 12
    · rw [if_pos q]
      exact fin _ (by unfold ptN; rw [Nat.max_eq_right q])
    · rw [if_neg q]
      exact fin _ (by unfold ptN; rw [Nat.max_eq_left (by omega)])
  · simp only [fX13_next_b48, show (28 : Int32) ≤ nI 28 by decide, if_true, dnP]
theorem call_next (B : Nat) : Call B B (fX12_next (some 0)) (fX13_next (some 289)) := fun h a => by
  have hg := a.2.2.2.2.2.2.2.2.2.1
  have hh := a.1
  obtain ⟨A, w, c, r⟩ := openA a
  have hs := orS_lt (psb h) 12 (Nat.le_refl _)
  generalize hset : orS (psb h) 12 = s at hs
  have hn := cN_le (btF s) 12
  have ht : ∀ a, cN (tkF s a) 12 ≤ cN (btF s) 12 := fun a => cN_sub (fun k hk => by
    have hk : (btF s k && alw a k) = true := hk
    exact (Bool.and_eq_true_iff.mp hk).1) 12
  have pc := possible_c hh hg
  rw [hset] at pc
  have bc : ∀ k : dnH, fJ6_bitCount_0f7a4 (nI s) k = some (nI (cN (btF s) 12), k) := fun k => by rw [bitCount_c hs, aI_nI]; rfl
  have sum : ∀ k : dnH, dnIt 1000 (fX13_next_b9 (some 289) (nI s)) (0, 0) k = some (nI (cN (btF s) 12), k) := fun k => by
    rw [← aI_nI]
    refine dnIt_run (f := fX13_next_b9 (some 289) (nI s)) (q := aI (btF s) 12) (hq := k) 12 1000 (fun i => ((aI (btF s) i, nI i), k)) (by decide) ?_ ?_
    · intro i hi
      have hc : ¬ ((11 : Int32) < nI i) := fun hc => by have := (nI_ltI (a := 11) (b := i) (by omega) (by omega)).mp hc; omega
      simp only [fX13_next_b9, hc, if_false, dnP, nI_1]
      show some (Sum.inl (aI (btF s) i + bt s i, nI (i + 1)), k) = some (Sum.inl (aI (btF s) i + dnZ (decide (bt s i = 1)), nI (i + 1)), k)
      rw [← bt_z]
    · simp only [fX13_next_b9, show (11 : Int32) < nI 12 by decide, if_true, dnP]
  generalize cN (btF s) 12 = n at hn ht bc sum
  have g2 : (2 ≤ nI n) ↔ 2 ≤ n := nI_leI (a := 2) (by decide) (by omega)
  by_cases q : 2 ≤ n
  · have eq := bs_eq (pt := ptN s n) (s := 13) (t := n + 1) (by have := ht 0; unfold ptN; omega) (by have := ht 0; unfold ptN; omega) 27
    have nx := next_r (h := dnSL h 258 0 (nI (bsN (ptN s n) 13 28).2).toInt64) hn ht
    rw [← eq] at nx
    have c2 := c.told (nI (bsN (ptN s n) 13 28).2).toInt64
    have hnr : rfd (bsN (ptN s n) 13 28).1 = false := by
      rcases bs_ans (pt := ptN s n) (s := 13) 28 with e | ⟨k, hk, e⟩
      · rw [e]; decide
      · rw [e]; exact rfd_nI (by omega)
    have cid : ∀ (k : dnH) (x : Nat), cnt k x (bsN (ptN s n) 13 28).1 = k := fun k x => if_neg (by rw [hnr]; decide)
    have r1 := r (dnSL h 258 0 (nI (bsN (ptN s n) 13 28).2).toInt64) (bsN (ptN s n) 13 28).1 c2.2.1
    obtain ⟨t1, r2⟩ := tells_A r1 (nI (bsN (ptN s n) 13 28).2).toInt64 (bsN (ptN s n) 13 28).1
    have fin := closeA (v := (bsN (ptN s n) 13 28).1) a (Nat.le_refl _) w.note c2 r2
    rw [cid, cid, fl_id (fun x hx => (by
      have := r2.2.2.1 x hx
      rw [cid] at this
      exact this))] at fin
    rw [cid] at t1
    have s2 : Sh (dnSL h 258 0 (nI (bsN (ptN s n) 13 28).2).toInt64) := hh
    have g3 : gsRel (dnSL h 258 0 (nI (bsN (ptN s n) 13 28).2).toInt64) := hg
    have lf := leftSet_r s2 g3
    have lf : fX13_leftSet (some 289) (dnSL h 258 0 (nI (bsN (ptN s n) 13 28).2).toInt64) = some (nI (orS (psb h) 12), dnSL h 258 0 (nI (bsN (ptN s n) 13 28).2).toInt64) := lf
    rw [hset] at lf
    refine ⟨(bsN (ptN s n) 13 28).1, dnSL h 258 0 (nI (bsN (ptN s n) 13 28).2).toInt64, _, ?_, ?_, fin⟩
    · have nc := next_c (h := h) hn ht
      simp only [fX12_next, fX1_bestAct, dnB_eval, g_0_10 hh, v_285 hh, pc, bc, g2, q, if_true, nc, g_285_0 hh, p_258_0 hh, dnP]
    · simp only [fX13_next, dnB_eval, v_289 s2, lf, sum, g2, q, if_true, nI_1, nx, t1, dnP]
  · have lf := leftSet_r hh hg
    rw [hset] at lf
    refine ⟨-9, h, h, ?_, ?_, a⟩
    · simp only [fX12_next, fX1_bestAct, dnB_eval, g_0_10 hh, v_285 hh, pc, bc, g2, q, if_false, dnP]
    · simp only [fX13_next, dnB_eval, v_289 hh, lf, sum, g2, q, if_false, dnP]
