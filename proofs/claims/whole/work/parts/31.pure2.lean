/-! PURE 2: functions that neither read nor write the heap -/
def Hf {α : Type} (F : dnM α) : Prop := ∃ o : Option α, ∀ h, F h = o.map (fun a => (a, h))
theorem Hf.pure {α : Type} {a : α} : Hf (dnP a) := ⟨some a, fun _ => rfl⟩
theorem Hf.bind {α β : Type} {x : dnM α} {f : α → dnM β} (hx : Hf x) (hf : ∀ a, Hf (f a)) : Hf (dnB x f) := by
  obtain ⟨o, ho⟩ := hx
  cases o with
  | none => exact ⟨none, fun h => by simp only [dnB, ho]; rfl⟩
  | some a =>
    obtain ⟨o, h2⟩ := hf a
    exact ⟨o, fun h => by simp only [dnB, ho, Option.map_some]; exact h2 h⟩
theorem Hf.ite {α : Type} {c : Prop} [Decidable c] {x y : dnM α} (hx : Hf x) (hy : Hf y) : Hf (if c then x else y) := by split <;> assumption
theorem Hf.xt {i : Int32} : Hf (dnXT i) := ⟨if dnIn i 12 then some (dnTk i.toNatClampNeg) else none, fun h => by unfold dnXT; split <;> rfl⟩
theorem Hf.n64 {x : UInt64} : Hf (dnN64 x) := ⟨if x &&& 0x7fffffffffffffff ≤ 0x7ff0000000000000 then some x else none, fun h => by unfold dnN64; split <;> rfl⟩
theorem Hf.n32 {x : UInt32} : Hf (dnN32 x) := ⟨if x &&& 0x7fffffff ≤ 0x7f800000 then some x else none, fun h => by unfold dnN32; split <;> rfl⟩
theorem Hf.it {σ ρ : Type} {f : σ → dnM (σ ⊕ ρ)} (hf : ∀ s, Hf (f s)) : ∀ (n : Nat) (s : σ), Hf (dnIt n f s) := by
  intro n
  induction n with
  | zero => exact fun s => ⟨none, fun _ => rfl⟩
  | succ n ih =>
    intro s
    refine Hf.bind (hf s) (fun r => ?_)
    cases r
    · exact ih _
    · exact Hf.pure
theorem Hf.elim {α β γ : Type} {q : α ⊕ β} {f : α → dnM γ} {g : β → dnM γ} (hf : ∀ a, Hf (f a)) (hg : ∀ b, Hf (g b)) : Hf (q.elim f g) := by cases q; exact hf _; exact hg _
theorem Hf.val {α : Type} {F : dnM α} {v : α} (H : Hf F) (e : (F dnH0).map Prod.fst = some v) : F = dnP v := by
  obtain ⟨o, ho⟩ := H
  rw [ho] at e
  cases o with
  | none => cases e
  | some a => cases e; exact funext ho
theorem hf_c_isReal {p} : Hf (fX12_isReal p) := by unfold fX12_isReal fX12_isReal_j12; (repeat' (first | with_reducible exact Hf.pure | with_reducible exact Hf.xt | with_reducible exact Hf.n64 | with_reducible exact Hf.n32 | with_reducible assumption | with_reducible refine Hf.ite ?_ ?_ | with_reducible refine Hf.bind ?_ (fun _ => ?_) | with_reducible refine Hf.it (fun _ => ?_) _ _ | with_reducible refine Hf.elim (fun _ => ?_) (fun _ => ?_)))
theorem hf_c_isPlain {p} : Hf (fX12_isPlain p) := by unfold fX12_isPlain; (repeat' (first | with_reducible exact Hf.pure | with_reducible exact Hf.xt | with_reducible exact Hf.n64 | with_reducible exact Hf.n32 | with_reducible assumption | with_reducible refine Hf.ite ?_ ?_ | with_reducible refine Hf.bind ?_ (fun _ => ?_) | with_reducible refine Hf.it (fun _ => ?_) _ _ | with_reducible refine Hf.elim (fun _ => ?_) (fun _ => ?_)))
theorem hf_c_isGrid {p} : Hf (fX12_isGrid p) := by unfold fX12_isGrid; (repeat' (first | with_reducible exact Hf.pure | with_reducible exact Hf.xt | with_reducible exact Hf.n64 | with_reducible exact Hf.n32 | with_reducible assumption | with_reducible refine Hf.ite ?_ ?_ | with_reducible refine Hf.bind ?_ (fun _ => ?_) | with_reducible refine Hf.it (fun _ => ?_) _ _ | with_reducible refine Hf.elim (fun _ => ?_) (fun _ => ?_)))
theorem hf_c_isKind {p} : Hf (fX12_isKind p) := by unfold fX12_isKind; (repeat' (first | with_reducible exact Hf.pure | with_reducible exact Hf.xt | with_reducible exact Hf.n64 | with_reducible exact Hf.n32 | with_reducible assumption | with_reducible refine Hf.ite ?_ ?_ | with_reducible refine Hf.bind ?_ (fun _ => ?_) | with_reducible refine Hf.it (fun _ => ?_) _ _ | with_reducible refine Hf.elim (fun _ => ?_) (fun _ => ?_)))
theorem hf_c_isSort {p} : Hf (fX12_isSort p) := by unfold fX12_isSort; (repeat' (first | with_reducible exact Hf.pure | with_reducible exact Hf.xt | with_reducible exact Hf.n64 | with_reducible exact Hf.n32 | with_reducible assumption | with_reducible refine Hf.ite ?_ ?_ | with_reducible refine Hf.bind ?_ (fun _ => ?_) | with_reducible refine Hf.it (fun _ => ?_) _ _ | with_reducible refine Hf.elim (fun _ => ?_) (fun _ => ?_)))
theorem hf_c_isNumber {p} : Hf (fX12_isNumber p) := by unfold fX12_isNumber; (repeat' (first | with_reducible exact Hf.pure | with_reducible exact Hf.xt | with_reducible exact Hf.n64 | with_reducible exact Hf.n32 | with_reducible assumption | with_reducible refine Hf.ite ?_ ?_ | with_reducible refine Hf.bind ?_ (fun _ => ?_) | with_reducible refine Hf.it (fun _ => ?_) _ _ | with_reducible refine Hf.elim (fun _ => ?_) (fun _ => ?_)))
theorem hf_c_isAct {p} : Hf (fX12_isAct p) := by unfold fX12_isAct; (repeat' (first | with_reducible exact Hf.pure | with_reducible exact Hf.xt | with_reducible exact Hf.n64 | with_reducible exact Hf.n32 | with_reducible assumption | with_reducible refine Hf.ite ?_ ?_ | with_reducible refine Hf.bind ?_ (fun _ => ?_) | with_reducible refine Hf.it (fun _ => ?_) _ _ | with_reducible refine Hf.elim (fun _ => ?_) (fun _ => ?_)))
theorem hf_c_isImage {p} : Hf (fX12_isImage p) := by unfold fX12_isImage; (repeat' (first | with_reducible exact Hf.pure | with_reducible exact Hf.xt | with_reducible exact Hf.n64 | with_reducible exact Hf.n32 | with_reducible assumption | with_reducible refine Hf.ite ?_ ?_ | with_reducible refine Hf.bind ?_ (fun _ => ?_) | with_reducible refine Hf.it (fun _ => ?_) _ _ | with_reducible refine Hf.elim (fun _ => ?_) (fun _ => ?_)))
theorem hf_c_takes {p q} : Hf (fX12_takes p q) := by unfold fX12_takes; (repeat' (first | with_reducible exact Hf.pure | with_reducible exact Hf.xt | with_reducible exact Hf.n64 | with_reducible exact Hf.n32 | with_reducible assumption | with_reducible refine Hf.ite ?_ ?_ | with_reducible refine Hf.bind ?_ (fun _ => ?_) | with_reducible refine Hf.it (fun _ => ?_) _ _ | with_reducible refine Hf.elim (fun _ => ?_) (fun _ => ?_)))
theorem hf_r_in {p q r} : Hf (fX13_in p q r) := by unfold fX13_in; (repeat' (first | with_reducible exact Hf.pure | with_reducible exact Hf.xt | with_reducible exact Hf.n64 | with_reducible exact Hf.n32 | with_reducible assumption | with_reducible refine Hf.ite ?_ ?_ | with_reducible refine Hf.bind ?_ (fun _ => ?_) | with_reducible refine Hf.it (fun _ => ?_) _ _ | with_reducible refine Hf.elim (fun _ => ?_) (fun _ => ?_)))
theorem hf_r_takes {p q} : Hf (fX13_takes p q) := by
  have := @hf_r_in
  unfold fX13_takes fX13_takes_j170 fX13_takes_j152 fX13_takes_j128 fX13_takes_j108 fX13_takes_j102
  (repeat' (first | with_reducible exact Hf.pure | with_reducible exact Hf.xt | with_reducible exact Hf.n64 | with_reducible exact Hf.n32 | with_reducible assumption | with_reducible refine Hf.ite ?_ ?_ | with_reducible refine Hf.bind ?_ (fun _ => ?_) | with_reducible refine Hf.it (fun _ => ?_) _ _ | with_reducible refine Hf.elim (fun _ => ?_) (fun _ => ?_)))
  all_goals exact hf_r_in
/-- whether a kind takes a sort -/
def tk (a b : Nat) : Bool := ([1, 2, 4, 10, 30, 62, 126, 254, 4095, 2064, 2816, 3072].getD a 0).testBit b
theorem takesC {a b : Nat} (ha : a < 12) (hb : b < 12) : fX12_takes (nI a) (nI b) = dnP (tk a b) :=
  Hf.val hf_c_takes ((by decide +kernel : ∀ a, a < 12 → ∀ b, b < 12 → (fX12_takes (nI a) (nI b) dnH0).map Prod.fst = some (tk a b)) a ha b hb)
theorem takesR {a b : Nat} (ha : a < 12) (hb : b < 12) : fX13_takes (nI a) (nI b) = dnP (tk a b) :=
  Hf.val hf_r_takes ((by decide +kernel : ∀ a, a < 12 → ∀ b, b < 12 → (fX13_takes (nI a) (nI b) dnH0).map Prod.fst = some (tk a b)) a ha b hb)
