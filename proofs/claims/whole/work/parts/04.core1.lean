/-! CORE 1: a heap told by tables, and computations over it -/
/-- the heap: what each cell is (a tag and a size), and what the cells hold: ints, longs, doubles, references, by cell and place -/
abbrev dnH : Type := List (Nat × Nat) × (Nat → Nat → Int32) × (Nat → Nat → Int64) × (Nat → Nat → UInt64) × (Nat → Nat → Option Nat)
abbrev dnM (α : Type) : Type := dnH → Option (α × dnH)
def dnB {α β : Type} (x : dnM α) (f : α → dnM β) : dnM β := fun h => match x h with
  | none => none
  | some r => f r.1 r.2
def dnP {α : Type} (a : α) : dnM α := fun h => some (a, h)
theorem dnB_inv {α β : Type} {x : dnM α} {f : α → dnM β} {h : dnH} {r : β × dnH} (e : dnB x f h = some r) : ∃ (a : α) (h1 : dnH), x h = some (a, h1) ∧ f a h1 = some r := by
  unfold dnB at e
  cases hx : x h with
  | none => rw [hx] at e; cases e
  | some q => rw [hx] at e; exact ⟨q.1, q.2, rfl, e⟩
theorem dnB_assoc {α β γ : Type} (x : dnM α) (f : α → dnM β) (g : β → dnM γ) : dnB (dnB x f) g = dnB x (fun a => dnB (f a) g) := by
  funext h
  unfold dnB
  cases x h <;> rfl
theorem dnB_pure {α β : Type} (a : α) (f : α → dnM β) : dnB (dnP a) f = f a := rfl
theorem dnB_id {α : Type} (x : dnM α) : dnB x dnP = x := by
  funext h
  unfold dnB dnP
  cases x h <;> rfl
theorem dnB_ite {α β : Type} (c : Prop) [Decidable c] (x y : dnM α) (f : α → dnM β) : dnB (if c then x else y) f = if c then dnB x f else dnB y f := by
  by_cases h : c <;> simp [h]
/-- a loop: from a state to the next one, or out -/
def dnIt {σ ρ : Type} : Nat → (σ → dnM (σ ⊕ ρ)) → σ → dnM ρ
  | 0, _, _ => fun _ => none
  | n + 1, f, s => dnB (f s) fun r => match r with
    | .inl s1 => dnIt n f s1
    | .inr q => dnP q
/-- updates -/
def dnUp {α : Type} (f : Nat → Nat → α) (a k : Nat) (v : α) : Nat → Nat → α := fun x y => if x = a ∧ y = k then v else f x y
def dnUpA {α : Type} (f : Nat → Nat → α) (a : Nat) (g : Nat → α) : Nat → Nat → α := fun x => if x = a then g else f x
def dnSI (h : dnH) (a k : Nat) (v : Int32) : dnH := (h.1, dnUp h.2.1 a k v, h.2.2)
def dnSL (h : dnH) (a k : Nat) (v : Int64) : dnH := (h.1, h.2.1, dnUp h.2.2.1 a k v, h.2.2.2)
def dnSD (h : dnH) (a k : Nat) (v : UInt64) : dnH := (h.1, h.2.1, h.2.2.1, dnUp h.2.2.2.1 a k v, h.2.2.2.2)
def dnSR (h : dnH) (a k : Nat) (v : Option Nat) : dnH := (h.1, h.2.1, h.2.2.1, h.2.2.2.1, dnUp h.2.2.2.2 a k v)
/-- a new cell: its tag and size; all of it is 0 -/
def dnNw (h : dnH) (q : Nat × Nat) : dnH := (h.1 ++ [q], dnUpA h.2.1 h.1.length (fun _ => 0), dnUpA h.2.2.1 h.1.length (fun _ => 0), dnUpA h.2.2.2.1 h.1.length (fun _ => 0), dnUpA h.2.2.2.2 h.1.length (fun _ => none))
/-- the cell behind a reference, if it has a tag -/
def dnAt (h : dnH) (r : Option Nat) (t : Nat) : Option (Nat × Nat) := match r with
  | none => none
  | some a => match h.1[a]? with
    | none => none
    | some q => if q.1 = t then some (a, q.2) else none
def dnIn (i : Int32) (n : Nat) : Bool := decide (0 ≤ i.toInt ∧ i.toInt < n)
def dnGI (r : Option Nat) (t k : Nat) : dnM Int32 := fun h => (dnAt h r t).map fun a => (h.2.1 a.1 k, h)
def dnGL (r : Option Nat) (t k : Nat) : dnM Int64 := fun h => (dnAt h r t).map fun a => (h.2.2.1 a.1 k, h)
def dnGD (r : Option Nat) (t k : Nat) : dnM UInt64 := fun h => (dnAt h r t).map fun a => (h.2.2.2.1 a.1 k, h)
def dnGR (r : Option Nat) (t k : Nat) : dnM (Option Nat) := fun h => (dnAt h r t).map fun a => (h.2.2.2.2 a.1 k, h)
def dnPI (r : Option Nat) (t k : Nat) (v : Int32) : dnM Unit := fun h => (dnAt h r t).map fun a => ((), dnSI h a.1 k v)
def dnPL (r : Option Nat) (t k : Nat) (v : Int64) : dnM Unit := fun h => (dnAt h r t).map fun a => ((), dnSL h a.1 k v)
def dnPD (r : Option Nat) (t k : Nat) (v : UInt64) : dnM Unit := fun h => (dnAt h r t).map fun a => ((), dnSD h a.1 k v)
def dnPR (r : Option Nat) (t k : Nat) (v : Option Nat) : dnM Unit := fun h => (dnAt h r t).map fun a => ((), dnSR h a.1 k v)
def dnAI (r : Option Nat) (t : Nat) (i : Int32) : dnM Int32 := fun h => match dnAt h r t with
  | none => none
  | some a => if dnIn i a.2 then some (h.2.1 a.1 i.toNatClampNeg, h) else none
def dnAL (r : Option Nat) (t : Nat) (i : Int32) : dnM Int64 := fun h => match dnAt h r t with
  | none => none
  | some a => if dnIn i a.2 then some (h.2.2.1 a.1 i.toNatClampNeg, h) else none
def dnAD (r : Option Nat) (t : Nat) (i : Int32) : dnM UInt64 := fun h => match dnAt h r t with
  | none => none
  | some a => if dnIn i a.2 then some (h.2.2.2.1 a.1 i.toNatClampNeg, h) else none
def dnAR (r : Option Nat) (t : Nat) (i : Int32) : dnM (Option Nat) := fun h => match dnAt h r t with
  | none => none
  | some a => if dnIn i a.2 then some (h.2.2.2.2 a.1 i.toNatClampNeg, h) else none
def dnTI (r : Option Nat) (t : Nat) (i : Int32) (v : Int32) : dnM Unit := fun h => match dnAt h r t with
  | none => none
  | some a => if dnIn i a.2 then some ((), dnSI h a.1 i.toNatClampNeg v) else none
def dnTL (r : Option Nat) (t : Nat) (i : Int32) (v : Int64) : dnM Unit := fun h => match dnAt h r t with
  | none => none
  | some a => if dnIn i a.2 then some ((), dnSL h a.1 i.toNatClampNeg v) else none
def dnTD (r : Option Nat) (t : Nat) (i : Int32) (v : UInt64) : dnM Unit := fun h => match dnAt h r t with
  | none => none
  | some a => if dnIn i a.2 then some ((), dnSD h a.1 i.toNatClampNeg v) else none
/-- a reference to an object of a kind into an array of references -/
def dnTR (r : Option Nat) (t tv : Nat) (i : Int32) (v : Option Nat) : dnM Unit := fun h => match dnAt h r t, dnAt h v tv with
  | some a, some _ => if dnIn i a.2 then some ((), dnSR h a.1 i.toNatClampNeg v) else none
  | _, _ => none
def dnLn (r : Option Nat) (t : Nat) : dnM Int32 := fun h => (dnAt h r t).map fun a => (Int32.ofNat a.2, h)
/-- the object is of this kind (a call's receiver) -/
def dnCk (r : Option Nat) (t : Nat) : dnM Unit := fun h => (dnAt h r t).map fun _ => ((), h)
def dnNo (t : Nat) : dnM (Option Nat) := fun h => some (some h.1.length, dnNw h (t, 0))
def dnNa (t : Nat) (n : Int32) : dnM (Option Nat) := fun h => if n < 0 then none else some (some h.1.length, dnNw h (t, n.toNatClampNeg))
/-- what must not be a NaN, what must not be 0 -/
def dnN64 (x : UInt64) : dnM UInt64 := fun h => if x &&& 0x7fffffffffffffff ≤ 0x7ff0000000000000 then some (x, h) else none
def dnN32 (x : UInt32) : dnM UInt32 := fun h => if x &&& 0x7fffffff ≤ 0x7f800000 then some (x, h) else none
def dnNz (y : Int32) : dnM Unit := fun h => if y = 0 then none else some ((), h)
def dnZ (v : Bool) : Int32 := match v with
  | true => 1
  | false => 0
theorem dnAt_inv {h : dnH} {r : Option Nat} {t a n : Nat} (e : dnAt h r t = some (a, n)) : r = some a ∧ h.1[a]? = some (t, n) := by
  unfold dnAt at e
  cases r with
  | none => cases e
  | some x =>
    dsimp only at e
    cases hq : h.1[x]? with
    | none => rw [hq] at e; cases e
    | some q =>
      rw [hq] at e
      dsimp only at e
      split at e
      · rename_i ht
        cases e
        exact ⟨rfl, by rw [hq, ← ht]⟩
      · cases e
theorem dnIn_vp {i : Int32} {n : Nat} (h : dnIn i n = true) : vp_in i n := by
  unfold dnIn at h
  exact vp_in_iff.mpr (of_decide_eq_true h)
