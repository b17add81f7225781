/-! ABS 13: the least kind of a set; what an act allows -/
def lkd (set : Nat) : Nat :=
  match (List.range 12).find? (fun k => decide (set = 2 ^ k)) with
  | some k => k
  | none => if set = 0 then 8 else match (List.range 8).find? (fun k => decide (([1, 2, 4, 10, 30, 62, 126, 254, 4095, 2064, 2816, 3072].getD k 0) &&& set = set)) with
    | some k => k
    | none => 8
theorem lk_c0 : ∀ n, n < 512 → (fX12_leastKind (nI (0 + n)) dnH0).map Prod.fst = some (nI (lkd (0 + n))) := by decide +kernel
theorem lk_r0 : ∀ n, n < 512 → (fX13_leastKind (nI (0 + n)) dnH0).map Prod.fst = some (nI (lkd (0 + n))) := by decide +kernel
theorem lk_c1 : ∀ n, n < 512 → (fX12_leastKind (nI (512 + n)) dnH0).map Prod.fst = some (nI (lkd (512 + n))) := by decide +kernel
theorem lk_r1 : ∀ n, n < 512 → (fX13_leastKind (nI (512 + n)) dnH0).map Prod.fst = some (nI (lkd (512 + n))) := by decide +kernel
theorem lk_c2 : ∀ n, n < 512 → (fX12_leastKind (nI (1024 + n)) dnH0).map Prod.fst = some (nI (lkd (1024 + n))) := by decide +kernel
theorem lk_r2 : ∀ n, n < 512 → (fX13_leastKind (nI (1024 + n)) dnH0).map Prod.fst = some (nI (lkd (1024 + n))) := by decide +kernel
theorem lk_c3 : ∀ n, n < 512 → (fX12_leastKind (nI (1536 + n)) dnH0).map Prod.fst = some (nI (lkd (1536 + n))) := by decide +kernel
theorem lk_r3 : ∀ n, n < 512 → (fX13_leastKind (nI (1536 + n)) dnH0).map Prod.fst = some (nI (lkd (1536 + n))) := by decide +kernel
theorem lk_c4 : ∀ n, n < 512 → (fX12_leastKind (nI (2048 + n)) dnH0).map Prod.fst = some (nI (lkd (2048 + n))) := by decide +kernel
theorem lk_r4 : ∀ n, n < 512 → (fX13_leastKind (nI (2048 + n)) dnH0).map Prod.fst = some (nI (lkd (2048 + n))) := by decide +kernel
theorem lk_c5 : ∀ n, n < 512 → (fX12_leastKind (nI (2560 + n)) dnH0).map Prod.fst = some (nI (lkd (2560 + n))) := by decide +kernel
theorem lk_r5 : ∀ n, n < 512 → (fX13_leastKind (nI (2560 + n)) dnH0).map Prod.fst = some (nI (lkd (2560 + n))) := by decide +kernel
theorem lk_c6 : ∀ n, n < 512 → (fX12_leastKind (nI (3072 + n)) dnH0).map Prod.fst = some (nI (lkd (3072 + n))) := by decide +kernel
theorem lk_r6 : ∀ n, n < 512 → (fX13_leastKind (nI (3072 + n)) dnH0).map Prod.fst = some (nI (lkd (3072 + n))) := by decide +kernel
theorem lk_c7 : ∀ n, n < 512 → (fX12_leastKind (nI (3584 + n)) dnH0).map Prod.fst = some (nI (lkd (3584 + n))) := by decide +kernel
theorem lk_r7 : ∀ n, n < 512 → (fX13_leastKind (nI (3584 + n)) dnH0).map Prod.fst = some (nI (lkd (3584 + n))) := by decide +kernel
theorem lk_c {n : Nat} (hn : n < 4096) : (fX12_leastKind (nI n) dnH0).map Prod.fst = some (nI (lkd n)) := by
  rcases (by omega : n / 512 = 0 ∨ n / 512 = 1 ∨ n / 512 = 2 ∨ n / 512 = 3 ∨ n / 512 = 4 ∨ n / 512 = 5 ∨ n / 512 = 6 ∨ n / 512 = 7) with e | e | e | e | e | e | e | e
  · have := lk_c0 (n - 0) (by omega)
    rw [show 0 + (n - 0) = n by omega] at this
    exact this
  · have := lk_c1 (n - 512) (by omega)
    rw [show 512 + (n - 512) = n by omega] at this
    exact this
  · have := lk_c2 (n - 1024) (by omega)
    rw [show 1024 + (n - 1024) = n by omega] at this
    exact this
  · have := lk_c3 (n - 1536) (by omega)
    rw [show 1536 + (n - 1536) = n by omega] at this
    exact this
  · have := lk_c4 (n - 2048) (by omega)
    rw [show 2048 + (n - 2048) = n by omega] at this
    exact this
  · have := lk_c5 (n - 2560) (by omega)
    rw [show 2560 + (n - 2560) = n by omega] at this
    exact this
  · have := lk_c6 (n - 3072) (by omega)
    rw [show 3072 + (n - 3072) = n by omega] at this
    exact this
  · have := lk_c7 (n - 3584) (by omega)
    rw [show 3584 + (n - 3584) = n by omega] at this
    exact this
theorem lk_r {n : Nat} (hn : n < 4096) : (fX13_leastKind (nI n) dnH0).map Prod.fst = some (nI (lkd n)) := by
  rcases (by omega : n / 512 = 0 ∨ n / 512 = 1 ∨ n / 512 = 2 ∨ n / 512 = 3 ∨ n / 512 = 4 ∨ n / 512 = 5 ∨ n / 512 = 6 ∨ n / 512 = 7) with e | e | e | e | e | e | e | e
  · have := lk_r0 (n - 0) (by omega)
    rw [show 0 + (n - 0) = n by omega] at this
    exact this
  · have := lk_r1 (n - 512) (by omega)
    rw [show 512 + (n - 512) = n by omega] at this
    exact this
  · have := lk_r2 (n - 1024) (by omega)
    rw [show 1024 + (n - 1024) = n by omega] at this
    exact this
  · have := lk_r3 (n - 1536) (by omega)
    rw [show 1536 + (n - 1536) = n by omega] at this
    exact this
  · have := lk_r4 (n - 2048) (by omega)
    rw [show 2048 + (n - 2048) = n by omega] at this
    exact this
  · have := lk_r5 (n - 2560) (by omega)
    rw [show 2560 + (n - 2560) = n by omega] at this
    exact this
  · have := lk_r6 (n - 3072) (by omega)
    rw [show 3072 + (n - 3072) = n by omega] at this
    exact this
  · have := lk_r7 (n - 3584) (by omega)
    rw [show 3584 + (n - 3584) = n by omega] at this
    exact this
theorem hf_c_least {p : Int32} : Hf (fX12_leastKind p) := by
  unfold fX12_leastKind
  (repeat' (first | with_reducible exact Hf.pure | with_reducible exact Hf.xt | with_reducible exact Hf.n64 | with_reducible exact Hf.n32 | with_reducible assumption | with_reducible refine Hf.ite ?_ ?_ | with_reducible refine Hf.bind ?_ (fun _ => ?_) | with_reducible refine Hf.it (fun _ => ?_) _ _ | with_reducible refine Hf.elim (fun _ => ?_) (fun _ => ?_)))
  all_goals (first | unfold fX12_leastKind_b2 | unfold fX12_leastKind_b32)
  all_goals (repeat' (first | with_reducible exact Hf.pure | with_reducible exact Hf.xt | with_reducible exact Hf.n64 | with_reducible exact Hf.n32 | with_reducible assumption | with_reducible refine Hf.ite ?_ ?_ | with_reducible refine Hf.bind ?_ (fun _ => ?_) | with_reducible refine Hf.it (fun _ => ?_) _ _ | with_reducible refine Hf.elim (fun _ => ?_) (fun _ => ?_)))
theorem hf_r_least {p : Int32} : Hf (fX13_leastKind p) := by
  have ht := @hf_r_takes
  unfold fX13_leastKind
  (repeat' (first | with_reducible exact Hf.pure | with_reducible exact Hf.xt | with_reducible exact Hf.n64 | with_reducible exact Hf.n32 | with_reducible assumption | with_reducible refine Hf.ite ?_ ?_ | with_reducible refine Hf.bind ?_ (fun _ => ?_) | with_reducible refine Hf.it (fun _ => ?_) _ _ | with_reducible refine Hf.elim (fun _ => ?_) (fun _ => ?_)))
  all_goals (first | unfold fX13_leastKind_b2 | unfold fX13_leastKind_b25)
  all_goals (repeat' (first | with_reducible exact Hf.pure | with_reducible exact Hf.xt | with_reducible exact Hf.n64 | with_reducible exact Hf.n32 | with_reducible assumption | with_reducible refine Hf.ite ?_ ?_ | with_reducible refine Hf.bind ?_ (fun _ => ?_) | with_reducible refine Hf.it (fun _ => ?_) _ _ | with_reducible refine Hf.elim (fun _ => ?_) (fun _ => ?_)))
  all_goals unfold fX13_leastKind_b46 fX13_leastKind_j72 fX13_leastKind_j76 fX13_leastKind_j77
  all_goals (repeat' (first | with_reducible exact Hf.pure | with_reducible exact Hf.xt | with_reducible exact Hf.n64 | with_reducible exact Hf.n32 | with_reducible assumption | with_reducible refine Hf.ite ?_ ?_ | with_reducible refine Hf.bind ?_ (fun _ => ?_) | with_reducible refine Hf.it (fun _ => ?_) _ _ | with_reducible refine Hf.elim (fun _ => ?_) (fun _ => ?_)))
  all_goals exact hf_r_takes
theorem leastC {n : Nat} (hn : n < 4096) : fX12_leastKind (nI n) = dnP (nI (lkd n)) := Hf.val hf_c_least (lk_c hn)
theorem leastR {n : Nat} (hn : n < 4096) : fX13_leastKind (nI n) = dnP (nI (lkd n)) := Hf.val hf_r_least (lk_r hn)
theorem tk8 {s : Nat} (hs : s < 12) : tk 8 s = true := (by decide +kernel : ∀ s, s < 12 → tk 8 s = true) s hs
theorem lkd_lt (n : Nat) : lkd n < 12 := by
  unfold lkd
  split
  · rename_i k hk
    exact List.mem_range.mp (List.mem_of_find?_eq_some hk)
  · split
    · decide
    · split
      · rename_i k hk
        have := List.mem_range.mp (List.mem_of_find?_eq_some hk)
        omega
      · decide
/-- it takes all that a kind of the set can bear -/
theorem lkd_tk {n a s : Nat} (ha : n.testBit a = true) (hs : s < 12) (ht : tk a s = true) (h8 : a < 8 → s = a) : tk (lkd n) s = true := by
  unfold lkd
  split
  · rename_i k hk
    have e : n = 2 ^ k := by simpa using List.find?_some hk
    have : a = k := by
      rw [e, Nat.testBit_two_pow] at ha
      exact (of_decide_eq_true ha).symm
    rw [← this]
    exact ht
  · split
    · exact tk8 hs
    · split
      · rename_i k hk
        have hk8 := List.mem_range.mp (List.mem_of_find?_eq_some hk)
        have e := List.find?_some hk
        have e : ([1, 2, 4, 10, 30, 62, 126, 254, 4095, 2064, 2816, 3072].getD k 0) &&& n = n := by simpa using e
        have t : ([1, 2, 4, 10, 30, 62, 126, 254, 4095, 2064, 2816, 3072].getD k 0).testBit a = true := by
          rw [← e, Nat.testBit_and] at ha
          exact (Bool.and_eq_true_iff.mp ha).1
        have lt : a < 8 := by
          refine Classical.byContradiction (fun hc => ?_)
          have : ([1, 2, 4, 10, 30, 62, 126, 254, 4095, 2064, 2816, 3072].getD k 0) < 2 ^ a := Nat.lt_of_lt_of_le ((by decide +kernel : ∀ k, k < 8 → ([1, 2, 4, 10, 30, 62, 126, 254, 4095, 2064, 2816, 3072].getD k 0) < 2 ^ 8) k hk8) (Nat.pow_le_pow_right (by decide) (by omega))
          rw [Nat.testBit_lt_two_pow this] at t
          cases t
        rw [h8 lt]
        exact t
      · exact tk8 hs
def alw (a k : Nat) : Bool := if a < 8 then decide (k < 8) && tk a k else if a < 16 then decide (k < 8) && tk k (a - 8) else tk k (a - 16)
theorem hf_c_allows {p q : Int32} : Hf (fX12_allows p q) := by
  have ht := @hf_c_takes
  have hp := @hf_c_isPlain
  unfold fX12_allows fX12_readsAs
  (repeat' (first | with_reducible exact Hf.pure | with_reducible exact Hf.xt | with_reducible exact Hf.n64 | with_reducible exact Hf.n32 | with_reducible assumption | with_reducible refine Hf.ite ?_ ?_ | with_reducible refine Hf.bind ?_ (fun _ => ?_) | with_reducible refine Hf.it (fun _ => ?_) _ _ | with_reducible refine Hf.elim (fun _ => ?_) (fun _ => ?_)))
  all_goals first | exact hf_c_takes | exact hf_c_isPlain
theorem hf_r_isPlain {p : Int32} : Hf (fX13_isPlain p) := by rw [r_isPlain]; exact Hf.pure
theorem hf_r_isTaken {p q : Int32} : Hf (fX13_isTaken p q) := by
  have ht := @hf_r_takes
  unfold fX13_isTaken
  (repeat' (first | with_reducible exact Hf.pure | with_reducible exact Hf.xt | with_reducible exact Hf.n64 | with_reducible exact Hf.n32 | with_reducible assumption | with_reducible refine Hf.ite ?_ ?_ | with_reducible refine Hf.bind ?_ (fun _ => ?_) | with_reducible refine Hf.it (fun _ => ?_) _ _ | with_reducible refine Hf.elim (fun _ => ?_) (fun _ => ?_)))
  all_goals first | exact hf_r_takes | exact hf_r_isPlain
theorem allowsC {a k : Nat} (ha : a < 28) (hk : k < 12) : fX12_allows (nI a) (nI k) = dnP (alw a k) := Hf.val hf_c_allows ((by decide +kernel : ∀ a, a < 28 → ∀ k, k < 12 → (fX12_allows (nI a) (nI k) dnH0).map Prod.fst = some (alw a k)) a ha k hk)
theorem allowsR {a k : Nat} (ha : a < 28) (hk : k < 12) : fX13_isTaken (nI a) (nI k) = dnP (alw a k) := Hf.val hf_r_isTaken ((by decide +kernel : ∀ a, a < 28 → ∀ k, k < 12 → (fX13_isTaken (nI a) (nI k) dnH0).map Prod.fst = some (alw a k)) a ha k hk)
