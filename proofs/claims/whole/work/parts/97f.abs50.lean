/-! ABS 50: regions: cells, closures, lists -/
def ceO (ρ : Nat → Option Rw) (c : Nat) : Option Cel := match ρ (c / 12) with | none => none | some R => if c % 12 < R.2.1 then some (R.2.2 (c % 12)) else none
def bsd (a b : Nat) : Bool := decide ((b + 1 = a ∧ a % 12 ≠ 0) ∨ (a + 1 = b ∧ b % 12 ≠ 0) ∨ b = a + 12 ∨ a = b + 12)
def lkO (x y : Option Cel) : Bool := match x with | none => false | some c => (match y with | none => false | some d => lkC c d)
def nbr (ρ : Nat → Option Rw) (a b : Nat) : Bool := bsd a b && lkO (ceO ρ a) (ceO ρ b)
theorem bsd_comm (a b : Nat) : bsd a b = bsd b a := by
  unfold bsd
  rw [decide_eq_decide]
  omega
theorem lkO_comm (x y : Option Cel) : lkO x y = lkO y x := by
  cases x with
  | none => cases y <;> rfl
  | some c => cases y with
    | none => rfl
    | some d => exact lkC_comm c d
theorem nbr_comm {ρ : Nat → Option Rw} (a b : Nat) : nbr ρ a b = nbr ρ b a := by
  unfold nbr
  rw [bsd_comm, lkO_comm]
theorem nbr_some {ρ : Nat → Option Rw} {a b : Nat} (h : nbr ρ a b = true) : (ceO ρ a).isSome = true ∧ (ceO ρ b).isSome = true := by
  unfold nbr at h
  obtain ⟨-, h⟩ := Bool.and_eq_true_iff.mp h
  cases ha : ceO ρ a with
  | none => rw [ha] at h; cases h
  | some x =>
    cases hb : ceO ρ b with
    | none => rw [ha, hb] at h; cases h
    | some y => exact ⟨rfl, rfl⟩
def Cl (N : Nat → Nat → Bool) (s c : Nat) : Prop := ∀ P : Nat → Prop, P s → (∀ a b, P a → N a b = true → P b) → P c
def clo (N : Nat → Nat → Bool) (M : Nat → Bool) : Prop := ∀ a b, M a = true → N a b = true → M b = true
theorem cl_out {N : Nat → Nat → Bool} {M : Nat → Bool} {s c : Nat} (hN : ∀ a b, N a b = N b a) (hM : clo N M) (hs : M s = false) (h : Cl N s c) : M c = false :=
  h (fun x => M x = false) hs (fun a b ha hab => by
    cases hb : M b with
    | false => rfl
    | true =>
      have := hM b a hb (by rw [← hN]; exact hab)
      rw [ha] at this
      cases this)
theorem cl_clo {N : Nat → Nat → Bool} {S : Nat → Bool} {s : Nat} (h1 : S s = true) (h2 : clo N S) (h3 : ∀ c, S c = true → Cl N s c) (c : Nat) : S c = true ↔ Cl N s c := ⟨h3 c, fun h => h (fun x => S x = true) h1 h2⟩
theorem cl_step {N : Nat → Nat → Bool} {s a b : Nat} (h : Cl N s a) (hab : N a b = true) : Cl N s b := fun P h1 h2 => h2 a b (h P h1 h2) hab
theorem cl_rf {N : Nat → Nat → Bool} {s : Nat} : Cl N s s := fun P h1 _ => h1
def upO (S : Nat → Bool) (b c : Nat) : Bool := S c || decide (c = b)
theorem cN_up {S F : Nat → Bool} {b : Nat} (hb : S b = false) : ∀ n, cN (fun c => upO S b c && F c) n = cN (fun c => S c && F c) n + (if b < n ∧ F b = true then 1 else 0) := by
  intro n
  induction n with
  | zero => rw [if_neg (by omega)]; rfl
  | succ n ih =>
    have e1 : cN (fun c => upO S b c && F c) (n + 1) = cN (fun c => upO S b c && F c) n + (if (upO S b n && F n) = true then 1 else 0) := rfl
    have e2 : cN (fun c => S c && F c) (n + 1) = cN (fun c => S c && F c) n + (if (S n && F n) = true then 1 else 0) := rfl
    rw [e1, e2, ih]
    by_cases q : n = b
    · subst q
      have hu : upO S n n = true := by unfold upO; simp
      rw [hu, hb, if_neg (fun hc => by omega)]
      cases F n with
      | false => simp
      | true => simp
    · have hu : upO S b n = S n := by unfold upO; rw [decide_eq_false q, Bool.or_false]
      rw [hu]
      by_cases q2 : b < n
      · simp only [q2, show b < n + 1 by omega, true_and]
        omega
      · simp only [q2, show ¬ b < n + 1 by omega, false_and, if_false]
        omega
def Lst (S : Nat → Bool) (n : Nat) (L : Nat → Nat) : Prop := (∀ i, i < n → L i < 72 ∧ S (L i) = true) ∧ (∀ c, S c = true → ∃ i, i < n ∧ L i = c) ∧ ∀ F : Nat → Bool, cN (fun i => F (L i)) n = cN (fun c => S c && F c) 72
theorem lst_len {S : Nat → Bool} {n : Nat} {L : Nat → Nat} (h : Lst S n L) : n = cN S 72 := by
  have := h.2.2 (fun _ => true)
  rw [cN_all n (fun _ _ => rfl)] at this
  rw [this]
  exact cN_congr 72 (fun i _ => Bool.and_true _)
theorem lst_up {S : Nat → Bool} {n b : Nat} {L : Nat → Nat} (h : Lst S n L) (hb : b < 72) (hS : S b = false) : Lst (upO S b) (n + 1) (fun i => if i = n then b else L i) := by
  obtain ⟨h1, h2, h3⟩ := h
  refine ⟨fun i hi => ?_, fun c hc => ?_, fun F => ?_⟩
  · by_cases q : i = n
    · simp only [q, if_true]
      exact ⟨hb, by unfold upO; simp⟩
    · simp only [q, if_false]
      obtain ⟨a1, a2⟩ := h1 i (by omega)
      exact ⟨a1, by unfold upO; rw [a2]; rfl⟩
  · unfold upO at hc
    rcases Bool.or_eq_true_iff.mp hc with hc | hc
    · obtain ⟨i, hi, e⟩ := h2 c hc
      exact ⟨i, by omega, by simp only [show ¬ i = n by omega, if_false]; exact e⟩
    · exact ⟨n, by omega, by simp only [if_true]; exact (of_decide_eq_true hc).symm⟩
  · rw [cN_up hS]
    have e : cN (fun i => F (if i = n then b else L i)) (n + 1) = cN (fun i => F (if i = n then b else L i)) n + (if F (if n = n then b else L n) = true then 1 else 0) := rfl
    rw [e, if_pos rfl, cN_congr (G := fun i => F (L i)) n (fun i hi => by show F _ = F _; rw [if_neg (show ¬ i = n by omega)]), h3 F]
    simp only [hb, true_and]
theorem lst_lt {S : Nat → Bool} {n b : Nat} {L : Nat → Nat} (h : Lst S n L) (hb : b < 72) (hS : S b = false) : n < 72 := by
  have := lst_len (lst_up h hb hS)
  have h2 := cN_le (upO S b) 72
  omega
theorem upO_in {S : Nat → Bool} {b c : Nat} (h : S c = true) : upO S b c = true := by unfold upO; rw [h]; rfl
theorem upO_b {S : Nat → Bool} {b : Nat} : upO S b b = true := by unfold upO; simp
theorem upO_of {S : Nat → Bool} {b c : Nat} (h : upO S b c = true) : S c = true ∨ c = b := by
  unfold upO at h
  rcases Bool.or_eq_true_iff.mp h with h | h
  · exact .inl h
  · exact .inr (of_decide_eq_true h)
theorem ce_lt {A : Ab} {G m c : Nat} (hm : m ≤ 6) (h : (ceO (sg A G m) c).isSome = true) : c < 72 := by
  by_cases q : c / 12 < m
  · omega
  · unfold ceO at h
    rw [show sg A G m (c / 12) = none from if_neg q] at h
    cases h
