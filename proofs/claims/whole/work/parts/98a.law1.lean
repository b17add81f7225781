/-! LAW 1: the class's calls leave the tags of what is there -/
def Tg {α : Type} (F : dnM α) : Prop := ∀ h v h2, F h = some (v, h2) → ∀ (a : Nat) (q : Nat × Nat), h.1[a]? = some q → h2.1[a]? = some q
theorem tg_ro {α : Type} {F : dnM α} (k : ∀ h v h2, F h = some (v, h2) → h2.1 = h.1) : Tg F := fun h v h2 e a q hq => by rw [k h v h2 e]; exact hq
theorem Tg.pure {α : Type} {x : α} : Tg (dnP x) := tg_ro (fun h v h2 e => by cases e; rfl)
theorem Tg.bind {α β : Type} {x : dnM α} {f : α → dnM β} (hx : Tg x) (hf : ∀ a, Tg (f a)) : Tg (dnB x f) := fun h v h2 e a q hq => by
  unfold dnB at e
  cases hxx : x h with
  | none => rw [hxx] at e; cases e
  | some r =>
    rw [hxx] at e
    exact hf r.1 r.2 v h2 e a q (hx h r.1 r.2 hxx a q hq)
theorem Tg.ite {α : Type} {c : Prop} [Decidable c] {x y : dnM α} (hx : Tg x) (hy : Tg y) : Tg (if c then x else y) := by split <;> assumption
theorem Tg.oelim {α β : Type} {o : Option α} {x : dnM β} {f : α → dnM β} (hx : Tg x) (hf : ∀ a, Tg (f a)) : Tg (o.elim x f) := by cases o; exact hx; exact hf _
theorem Tg.selim {α β γ : Type} {q : α ⊕ β} {f : α → dnM γ} {g : β → dnM γ} (hf : ∀ a, Tg (f a)) (hg : ∀ b, Tg (g b)) : Tg (q.elim f g) := by cases q; exact hf _; exact hg _
theorem Tg.it {σ ρ : Type} {f : σ → dnM (σ ⊕ ρ)} (hf : ∀ s, Tg (f s)) : ∀ (n : Nat) (s : σ), Tg (dnIt n f s) := by
  intro n
  induction n with
  | zero => exact fun s h v h2 e => by cases e
  | succ n ih =>
    intro s
    refine Tg.bind (hf s) (fun r => ?_)
    cases r
    · exact ih _
    · exact Tg.pure
theorem Tg.gi {r : Option Nat} {t k : Nat} : Tg (dnGI r t k) := tg_ro (fun h v h2 e => by unfold dnGI at e; obtain ⟨a, -, e2⟩ := Option.map_eq_some_iff.mp e; cases e2; rfl)
theorem Tg.gl {r : Option Nat} {t k : Nat} : Tg (dnGL r t k) := tg_ro (fun h v h2 e => by unfold dnGL at e; obtain ⟨a, -, e2⟩ := Option.map_eq_some_iff.mp e; cases e2; rfl)
theorem Tg.gd {r : Option Nat} {t k : Nat} : Tg (dnGD r t k) := tg_ro (fun h v h2 e => by unfold dnGD at e; obtain ⟨a, -, e2⟩ := Option.map_eq_some_iff.mp e; cases e2; rfl)
theorem Tg.gr {r : Option Nat} {t k : Nat} : Tg (dnGR r t k) := tg_ro (fun h v h2 e => by unfold dnGR at e; obtain ⟨a, -, e2⟩ := Option.map_eq_some_iff.mp e; cases e2; rfl)
theorem Tg.pi {r : Option Nat} {t k : Nat} {x : Int32} : Tg (dnPI r t k x) := tg_ro (fun h v h2 e => by unfold dnPI at e; obtain ⟨a, -, e2⟩ := Option.map_eq_some_iff.mp e; cases e2; rfl)
theorem Tg.pl {r : Option Nat} {t k : Nat} {x : Int64} : Tg (dnPL r t k x) := tg_ro (fun h v h2 e => by unfold dnPL at e; obtain ⟨a, -, e2⟩ := Option.map_eq_some_iff.mp e; cases e2; rfl)
theorem Tg.pd {r : Option Nat} {t k : Nat} {x : UInt64} : Tg (dnPD r t k x) := tg_ro (fun h v h2 e => by unfold dnPD at e; obtain ⟨a, -, e2⟩ := Option.map_eq_some_iff.mp e; cases e2; rfl)
theorem Tg.pr {r : Option Nat} {t k : Nat} {x : Option Nat} : Tg (dnPR r t k x) := tg_ro (fun h v h2 e => by unfold dnPR at e; obtain ⟨a, -, e2⟩ := Option.map_eq_some_iff.mp e; cases e2; rfl)
theorem Tg.ln {r : Option Nat} {t : Nat} : Tg (dnLn r t) := tg_ro (fun h v h2 e => by unfold dnLn at e; obtain ⟨a, -, e2⟩ := Option.map_eq_some_iff.mp e; cases e2; rfl)
theorem Tg.ck {r : Option Nat} {t : Nat} : Tg (dnCk r t) := tg_ro (fun h v h2 e => by unfold dnCk at e; obtain ⟨a, -, e2⟩ := Option.map_eq_some_iff.mp e; cases e2; rfl)
theorem Tg.ai {r : Option Nat} {t : Nat} {i : Int32} : Tg (dnAI r t i) := tg_ro (fun h v h2 e => by
  unfold dnAI at e
  cases ha : dnAt h r t with
  | none => rw [ha] at e; cases e
  | some a => rw [ha] at e; dsimp only at e; split at e <;> cases e; rfl)
theorem Tg.al {r : Option Nat} {t : Nat} {i : Int32} : Tg (dnAL r t i) := tg_ro (fun h v h2 e => by
  unfold dnAL at e
  cases ha : dnAt h r t with
  | none => rw [ha] at e; cases e
  | some a => rw [ha] at e; dsimp only at e; split at e <;> cases e; rfl)
theorem Tg.ad {r : Option Nat} {t : Nat} {i : Int32} : Tg (dnAD r t i) := tg_ro (fun h v h2 e => by
  unfold dnAD at e
  cases ha : dnAt h r t with
  | none => rw [ha] at e; cases e
  | some a => rw [ha] at e; dsimp only at e; split at e <;> cases e; rfl)
theorem Tg.ar {r : Option Nat} {t : Nat} {i : Int32} : Tg (dnAR r t i) := tg_ro (fun h v h2 e => by
  unfold dnAR at e
  cases ha : dnAt h r t with
  | none => rw [ha] at e; cases e
  | some a => rw [ha] at e; dsimp only at e; split at e <;> cases e; rfl)
theorem Tg.ti {r : Option Nat} {t : Nat} {i x : Int32} : Tg (dnTI r t i x) := tg_ro (fun h v h2 e => by
  unfold dnTI at e
  cases ha : dnAt h r t with
  | none => rw [ha] at e; cases e
  | some a => rw [ha] at e; dsimp only at e; split at e <;> cases e; rfl)
theorem Tg.tl {r : Option Nat} {t : Nat} {i : Int32} {x : Int64} : Tg (dnTL r t i x) := tg_ro (fun h v h2 e => by
  unfold dnTL at e
  cases ha : dnAt h r t with
  | none => rw [ha] at e; cases e
  | some a => rw [ha] at e; dsimp only at e; split at e <;> cases e; rfl)
theorem Tg.td {r : Option Nat} {t : Nat} {i : Int32} {x : UInt64} : Tg (dnTD r t i x) := tg_ro (fun h v h2 e => by
  unfold dnTD at e
  cases ha : dnAt h r t with
  | none => rw [ha] at e; cases e
  | some a => rw [ha] at e; dsimp only at e; split at e <;> cases e; rfl)
theorem Tg.tr {r : Option Nat} {t u : Nat} {i : Int32} {x : Option Nat} : Tg (dnTR r t u i x) := tg_ro (fun h v h2 e => by
  unfold dnTR at e
  cases ha : dnAt h r t with
  | none => rw [ha] at e; cases e
  | some a =>
    cases hb : dnAt h x u with
    | none => rw [ha, hb] at e; cases e
    | some b => rw [ha, hb] at e; dsimp only at e; split at e <;> cases e; rfl)
theorem Tg.nz {y : Int32} : Tg (dnNz y) := tg_ro (fun h v h2 e => by unfold dnNz at e; split at e <;> cases e; rfl)
theorem Tg.n64 {y : UInt64} : Tg (dnN64 y) := tg_ro (fun h v h2 e => by unfold dnN64 at e; split at e <;> cases e; rfl)
theorem Tg.n32 {y : UInt32} : Tg (dnN32 y) := tg_ro (fun h v h2 e => by unfold dnN32 at e; split at e <;> cases e; rfl)
theorem Tg.xt {y : Int32} : Tg (dnXT y) := tg_ro (fun h v h2 e => by unfold dnXT at e; split at e <;> cases e; rfl)
theorem Tg.xw {y : Int32} : Tg (dnXW y) := tg_ro (fun h v h2 e => by unfold dnXW at e; split at e <;> cases e; rfl)
theorem Tg.xs {y : Int32} : Tg (dnXs y) := tg_ro (fun h v h2 e => by unfold dnXs at e; split at e <;> cases e; rfl)
theorem Tg.sk {y : Nat} : Tg (dnSk y) := tg_ro (fun h v h2 e => by unfold dnSk at e; split at e <;> cases e; rfl)
theorem Tg.sc {y : Nat} {i : Int32} : Tg (dnSc y i) := tg_ro (fun h v h2 e => by unfold dnSc at e; split at e <;> cases e; rfl)
theorem Tg.ci {r s : Option Nat} {x y z : Int32} : Tg (dnCI r s x y z) := tg_ro (fun h v h2 e => by unfold dnCI at e; obtain ⟨a, -, e2⟩ := Option.map_eq_some_iff.mp e; cases e2; rfl)
theorem Tg.cl {r s : Option Nat} {x y z : Int32} : Tg (dnCL r s x y z) := tg_ro (fun h v h2 e => by unfold dnCL at e; obtain ⟨a, -, e2⟩ := Option.map_eq_some_iff.mp e; cases e2; rfl)
theorem Tg.cd {r s : Option Nat} {x y z : Int32} : Tg (dnCD r s x y z) := tg_ro (fun h v h2 e => by unfold dnCD at e; obtain ⟨a, -, e2⟩ := Option.map_eq_some_iff.mp e; cases e2; rfl)
theorem tg_nw {h : dnH} {p : Nat × Nat} : ∀ (a : Nat) (q : Nat × Nat), h.1[a]? = some q → (dnNw h p).1[a]? = some q := fun a q hq => by
  have ha : a < h.1.length := (List.getElem?_eq_some_iff.mp hq).1
  rw [((exh_nw (P := fun _ => True) (h := h) (q := p)).2 a ha).1]
  exact hq
theorem Tg.no {t : Nat} : Tg (dnNo t) := fun h v h2 e => by cases e; exact tg_nw
theorem Tg.na {t : Nat} {n : Int32} : Tg (dnNa t n) := fun h v h2 e => by
  unfold dnNa at e
  split at e
  · cases e
  · cases e; exact tg_nw
theorem Tg.cv {α : Type} {r : Option Nat} {t : Nat} {X : dnM α} (hX : Tg X) : Tg (dnCv r t X) := Tg.bind Tg.ck (fun _ => hX)
theorem tg_fJ6_bitCount_0f7a4 (p0 : Int32) : Tg (fJ6_bitCount_0f7a4 p0) := by
  unfold fJ6_bitCount_0f7a4
  repeat (first | (with_reducible exact Tg.pure))
theorem tg_fJ7_fill_53178_b5 (c0 : Option Nat) (c1 : Int32) (c3 : Int32) (s5 : Int32) : Tg (fJ7_fill_53178_b5 c0 c1 c3 s5) := by
  unfold fJ7_fill_53178_b5
  repeat (first | (with_reducible refine Tg.bind ?_ (fun _ => ?_)) | (with_reducible refine Tg.ite ?_ ?_) | (with_reducible exact Tg.ti) | (with_reducible exact Tg.pure))
theorem tg_fJ7_fill_53178 (r0 : Option Nat) (p1 : Int32) : Tg (fJ7_fill_53178 r0 p1) := by
  unfold fJ7_fill_53178
  repeat (first | (with_reducible refine Tg.bind ?_ (fun _ => ?_)) | (with_reducible refine Tg.it (fun _ => ?_) _ _) | (with_reducible exact Tg.ln) | (with_reducible exact Tg.pure) | (with_reducible apply tg_fJ7_fill_53178_b5))
theorem tg_fJ7_fill_7f8df_b6 (c0 : Option Nat) (c1 : UInt64) (c4 : Int32) (s6 : Int32) : Tg (fJ7_fill_7f8df_b6 c0 c1 c4 s6) := by
  unfold fJ7_fill_7f8df_b6
  repeat (first | (with_reducible refine Tg.bind ?_ (fun _ => ?_)) | (with_reducible refine Tg.ite ?_ ?_) | (with_reducible exact Tg.td) | (with_reducible exact Tg.pure))
theorem tg_fJ7_fill_7f8df (r0 : Option Nat) (p1 : UInt64) : Tg (fJ7_fill_7f8df r0 p1) := by
  unfold fJ7_fill_7f8df
  repeat (first | (with_reducible refine Tg.bind ?_ (fun _ => ?_)) | (with_reducible refine Tg.it (fun _ => ?_) _ _) | (with_reducible exact Tg.ln) | (with_reducible exact Tg.pure) | (with_reducible apply tg_fJ7_fill_7f8df_b6))
theorem tg_fJ7_fill_d0a16_b6 (c0 : Option Nat) (c1 : Int64) (c4 : Int32) (s6 : Int32) : Tg (fJ7_fill_d0a16_b6 c0 c1 c4 s6) := by
  unfold fJ7_fill_d0a16_b6
  repeat (first | (with_reducible refine Tg.bind ?_ (fun _ => ?_)) | (with_reducible refine Tg.ite ?_ ?_) | (with_reducible exact Tg.tl) | (with_reducible exact Tg.pure))
theorem tg_fJ7_fill_d0a16 (r0 : Option Nat) (p1 : Int64) : Tg (fJ7_fill_d0a16 r0 p1) := by
  unfold fJ7_fill_d0a16
  repeat (first | (with_reducible refine Tg.bind ?_ (fun _ => ?_)) | (with_reducible refine Tg.it (fun _ => ?_) _ _) | (with_reducible exact Tg.ln) | (with_reducible exact Tg.pure) | (with_reducible apply tg_fJ7_fill_d0a16_b6))
theorem tg_fJ9_floorMod_7cf53 (p0 : Int32) (p1 : Int32) : Tg (fJ9_floorMod_7cf53 p0 p1) := by
  unfold fJ9_floorMod_7cf53
  repeat (first | (with_reducible refine Tg.bind ?_ (fun _ => ?_)) | (with_reducible refine Tg.ite ?_ ?_) | (with_reducible exact Tg.nz) | (with_reducible exact Tg.pure))
theorem tg_fJ9_max_7cf53 (p0 : Int32) (p1 : Int32) : Tg (fJ9_max_7cf53 p0 p1) := by
  unfold fJ9_max_7cf53
  repeat (first | (with_reducible refine Tg.ite ?_ ?_) | (with_reducible exact Tg.pure))
theorem tg_fJ9_max_f86c9 (p0 : Int64) (p2 : Int64) : Tg (fJ9_max_f86c9 p0 p2) := by
  unfold fJ9_max_f86c9
  repeat (first | (with_reducible refine Tg.ite ?_ ?_) | (with_reducible exact Tg.pure))
theorem tg_fJ9_min_7cf53 (p0 : Int32) (p1 : Int32) : Tg (fJ9_min_7cf53 p0 p1) := by
  unfold fJ9_min_7cf53
  repeat (first | (with_reducible refine Tg.ite ?_ ?_) | (with_reducible exact Tg.pure))
theorem tg_fJ9_min_f86c9 (p0 : Int64) (p2 : Int64) : Tg (fJ9_min_f86c9 p0 p2) := by
  unfold fJ9_min_f86c9
  repeat (first | (with_reducible refine Tg.ite ?_ ?_) | (with_reducible exact Tg.pure))
theorem tg_fX10_begin (r0 : Option Nat) : Tg (fX10_begin r0) := by
  unfold fX10_begin
  repeat (first | (with_reducible refine Tg.bind ?_ (fun _ => ?_)) | (with_reducible exact Tg.pi) | (with_reducible exact Tg.pl) | (with_reducible exact Tg.pd) | (with_reducible exact Tg.pure))
theorem tg_fX10_combineReals (p0 : Int32) (p1 : UInt64) (p3 : UInt64) : Tg (fX10_combineReals p0 p1 p3) := by
  unfold fX10_combineReals
  repeat (first | (with_reducible refine Tg.bind ?_ (fun _ => ?_)) | (with_reducible refine Tg.ite ?_ ?_) | (with_reducible exact Tg.n64) | (with_reducible exact Tg.pure))
theorem tg_fX10_combineWholes (p0 : Int32) (p1 : Int64) (p3 : Int64) : Tg (fX10_combineWholes p0 p1 p3) := by
  unfold fX10_combineWholes
  repeat (first | (with_reducible refine Tg.bind ?_ (fun _ => ?_)) | (with_reducible refine Tg.ite ?_ ?_) | (with_reducible exact Tg.pure) | (with_reducible apply tg_fJ9_min_f86c9) | (with_reducible apply tg_fJ9_max_f86c9))
theorem tg_fX10_isChosen (p0 : Int32) (p1 : Int32) (p2 : Int32) (p3 : Int32) : Tg (fX10_isChosen p0 p1 p2 p3) := by
  unfold fX10_isChosen
  repeat (first | (with_reducible refine Tg.ite ?_ ?_) | (with_reducible exact Tg.pure))
theorem tg_fX10_isSummed_j16  : Tg (fX10_isSummed_j16 ) := by
  unfold fX10_isSummed_j16
  repeat (first | (with_reducible exact Tg.pure))
theorem tg_fX10_isSummed (p0 : Int32) : Tg (fX10_isSummed p0) := by
  unfold fX10_isSummed
  repeat (first | (with_reducible refine Tg.ite ?_ ?_) | (with_reducible exact Tg.pure) | (with_reducible apply tg_fX10_isSummed_j16))
theorem tg_fX10_isFoldable_j61  : Tg (fX10_isFoldable_j61 ) := by
  unfold fX10_isFoldable_j61
  repeat (first | (with_reducible exact Tg.pure))
theorem tg_fX10_isFoldable_j50 (l2 : Int32) (l3 : Int32) : Tg (fX10_isFoldable_j50 l2 l3) := by
  unfold fX10_isFoldable_j50
  repeat (first | (with_reducible refine Tg.ite ?_ ?_) | (with_reducible exact Tg.pure) | (with_reducible apply tg_fX10_isFoldable_j61))
theorem tg_fX10_isFoldable_j34 (l0 : Int32) (l1 : Int32) (l2 : Int32) (l3 : Int32) (s0 : Bool) : Tg (fX10_isFoldable_j34 l0 l1 l2 l3 s0) := by
  unfold fX10_isFoldable_j34
  repeat (first | (with_reducible refine Tg.ite ?_ ?_) | (with_reducible exact Tg.pure) | (with_reducible apply tg_fX10_isFoldable_j50))
theorem tg_fX10_isFoldable_j33 (l0 : Int32) (l1 : Int32) (l2 : Int32) (l3 : Int32) : Tg (fX10_isFoldable_j33 l0 l1 l2 l3) := by
  unfold fX10_isFoldable_j33
  repeat (first | (with_reducible apply tg_fX10_isFoldable_j34))
theorem tg_fX10_isFoldable (p0 : Int32) (p1 : Int32) (p2 : Int32) (p3 : Int32) : Tg (fX10_isFoldable p0 p1 p2 p3) := by
  unfold fX10_isFoldable
  repeat (first | (with_reducible refine Tg.bind ?_ (fun _ => ?_)) | (with_reducible refine Tg.ite ?_ ?_) | (with_reducible apply tg_fX10_isFoldable_j33) | (with_reducible apply tg_fX10_isSummed) | (with_reducible apply tg_fX10_isFoldable_j34))
theorem tg_fX12_narrowed (p0 : Int32) (p1 : Int64) : Tg (fX12_narrowed p0 p1) := by
  unfold fX12_narrowed
  repeat (first | (with_reducible refine Tg.ite ?_ ?_) | (with_reducible exact Tg.pure))
theorem tg_fX12_isPlain (p0 : Int32) : Tg (fX12_isPlain p0) := by
  unfold fX12_isPlain
  repeat (first | (with_reducible refine Tg.ite ?_ ?_) | (with_reducible exact Tg.pure))
theorem tg_fX12_takes (p0 : Int32) (p1 : Int32) : Tg (fX12_takes p0 p1) := by
  unfold fX12_takes
  repeat (first | (with_reducible refine Tg.bind ?_ (fun _ => ?_)) | (with_reducible refine Tg.ite ?_ ?_) | (with_reducible exact Tg.xt) | (with_reducible exact Tg.pure))
theorem tg_fX12_readsAs (p0 : Int32) (p1 : Int32) : Tg (fX12_readsAs p0 p1) := by
  unfold fX12_readsAs
  repeat (first | (with_reducible refine Tg.bind ?_ (fun _ => ?_)) | (with_reducible refine Tg.ite ?_ ?_) | (with_reducible exact Tg.pure) | (with_reducible apply tg_fX12_isPlain) | (with_reducible apply tg_fX12_takes))
theorem tg_fX12_isReal_j12  : Tg (fX12_isReal_j12 ) := by
  unfold fX12_isReal_j12
  repeat (first | (with_reducible exact Tg.pure))
theorem tg_fX12_isReal (p0 : Int32) : Tg (fX12_isReal p0) := by
  unfold fX12_isReal
  repeat (first | (with_reducible refine Tg.ite ?_ ?_) | (with_reducible exact Tg.pure) | (with_reducible apply tg_fX12_isReal_j12))
theorem tg_fX5_doubleAt (r0 : Option Nat) (p1 : Int32) : Tg (fX5_doubleAt r0 p1) := by
  unfold fX5_doubleAt
  repeat (first | (with_reducible refine Tg.bind ?_ (fun _ => ?_)) | (with_reducible refine Tg.ite ?_ ?_) | (with_reducible exact Tg.gr) | (with_reducible exact Tg.ai) | (with_reducible exact Tg.al) | (with_reducible exact Tg.ad) | (with_reducible exact Tg.pure) | (with_reducible apply tg_fX12_isReal))
theorem tg_fX10_take_j142 (l0 : Option Nat) : Tg (fX10_take_j142 l0) := by
  unfold fX10_take_j142
  repeat (first | (with_reducible refine Tg.bind ?_ (fun _ => ?_)) | (with_reducible exact Tg.gi) | (with_reducible exact Tg.pi) | (with_reducible exact Tg.pure))
theorem tg_fX10_take_j138 (l0 : Option Nat) (s0 : Option Nat) (s1 : Int32) (s2 : Bool) : Tg (fX10_take_j138 l0 s0 s1 s2) := by
  unfold fX10_take_j138
  repeat (first | (with_reducible refine Tg.bind ?_ (fun _ => ?_)) | (with_reducible exact Tg.pi) | (with_reducible apply tg_fX10_take_j142))
theorem tg_fX10_take_j118 (l0 : Option Nat) (l5 : Int64) (s0 : Option Nat) (s1 : Int64) : Tg (fX10_take_j118 l0 l5 s0 s1) := by
  unfold fX10_take_j118
  repeat (first | (with_reducible refine Tg.bind ?_ (fun _ => ?_)) | (with_reducible refine Tg.ite ?_ ?_) | (with_reducible exact Tg.gi) | (with_reducible exact Tg.pl) | (with_reducible apply tg_fX10_take_j138))
theorem tg_fX10_take_j75 (l0 : Option Nat) (s0 : Option Nat) (s1 : Int32) (s2 : Bool) : Tg (fX10_take_j75 l0 s0 s1 s2) := by
  unfold fX10_take_j75
  repeat (first | (with_reducible refine Tg.bind ?_ (fun _ => ?_)) | (with_reducible exact Tg.pi) | (with_reducible apply tg_fX10_take_j142))
theorem tg_fX10_take_j55 (l0 : Option Nat) (l5 : UInt64) (s0 : Option Nat) (s1 : UInt64) : Tg (fX10_take_j55 l0 l5 s0 s1) := by
  unfold fX10_take_j55
  repeat (first | (with_reducible refine Tg.bind ?_ (fun _ => ?_)) | (with_reducible refine Tg.ite ?_ ?_) | (with_reducible exact Tg.gi) | (with_reducible exact Tg.pd) | (with_reducible apply tg_fX10_take_j75))
theorem tg_fX10_take (r0 : Option Nat) (r1 : Option Nat) (p2 : Int32) (p3 : Int32) (p4 : Int32) : Tg (fX10_take r0 r1 p2 p3 p4) := by
  unfold fX10_take
  repeat (first | (with_reducible refine Tg.bind ?_ (fun _ => ?_)) | (with_reducible refine Tg.ite ?_ ?_) | (with_reducible refine Tg.oelim ?_ (fun _ => ?_)) | (with_reducible refine Tg.selim (fun _ => ?_) (fun _ => ?_)) | (with_reducible refine Tg.cv ?_) | (with_reducible exact Tg.gi) | (with_reducible exact Tg.gl) | (with_reducible exact Tg.gd) | (with_reducible exact Tg.gr) | (with_reducible exact Tg.al) | (with_reducible exact Tg.pure) | (with_reducible apply tg_fX12_readsAs) | (with_reducible apply tg_fX10_combineWholes) | (with_reducible apply tg_fX12_narrowed) | (with_reducible apply tg_fX10_take_j118) | (with_reducible apply tg_fX5_doubleAt) | (with_reducible apply tg_fX10_combineReals) | (with_reducible apply tg_fX10_take_j55))
theorem tg_fX12_codeOfReal (p0 : UInt64) : Tg (fX12_codeOfReal p0) := by
  unfold fX12_codeOfReal
  repeat (first | (with_reducible refine Tg.bind ?_ (fun _ => ?_)) | (with_reducible exact Tg.n64) | (with_reducible exact Tg.pure))
theorem tg_fX12_isGrid (p0 : Int32) : Tg (fX12_isGrid p0) := by
  unfold fX12_isGrid
  repeat (first | (with_reducible refine Tg.ite ?_ ?_) | (with_reducible exact Tg.pure))
theorem tg_fX9_hasPlace (r0 : Option Nat) (p1 : Int32) (p2 : Int32) : Tg (fX9_hasPlace r0 p1 p2) := by
  unfold fX9_hasPlace
  repeat (first | (with_reducible refine Tg.bind ?_ (fun _ => ?_)) | (with_reducible refine Tg.ite ?_ ?_) | (with_reducible exact Tg.gr) | (with_reducible exact Tg.ai) | (with_reducible exact Tg.pure))
theorem tg_fX9_rowAt (r0 : Option Nat) (p1 : Int32) (p2 : Int32) : Tg (fX9_rowAt r0 p1 p2) := by
  unfold fX9_rowAt
  repeat (first | (with_reducible refine Tg.bind ?_ (fun _ => ?_)) | (with_reducible refine Tg.ite ?_ ?_) | (with_reducible refine Tg.cv ?_) | (with_reducible exact Tg.gr) | (with_reducible exact Tg.ai) | (with_reducible exact Tg.ar) | (with_reducible exact Tg.pure) | (with_reducible apply tg_fX9_hasPlace))
theorem tg_fX9_cellsAt (r0 : Option Nat) (p1 : Int32) (p2 : Int32) : Tg (fX9_cellsAt r0 p1 p2) := by
  unfold fX9_cellsAt
  repeat (first | (with_reducible refine Tg.bind ?_ (fun _ => ?_)) | (with_reducible refine Tg.oelim ?_ (fun _ => ?_)) | (with_reducible refine Tg.selim (fun _ => ?_) (fun _ => ?_)) | (with_reducible refine Tg.cv ?_) | (with_reducible exact Tg.gi) | (with_reducible exact Tg.pure) | (with_reducible apply tg_fX9_rowAt))
theorem tg_fX9_gridFault (r0 : Option Nat) (p1 : Int32) : Tg (fX9_gridFault r0 p1) := by
  unfold fX9_gridFault
  repeat (first | (with_reducible refine Tg.bind ?_ (fun _ => ?_)) | (with_reducible refine Tg.ite ?_ ?_) | (with_reducible exact Tg.gr) | (with_reducible exact Tg.ai) | (with_reducible exact Tg.pure) | (with_reducible apply tg_fX12_isGrid))
theorem tg_fX9_placeFault (r0 : Option Nat) (p1 : Int32) (p2 : Int32) : Tg (fX9_placeFault r0 p1 p2) := by
  unfold fX9_placeFault
  repeat (first | (with_reducible refine Tg.bind ?_ (fun _ => ?_)) | (with_reducible refine Tg.ite ?_ ?_) | (with_reducible refine Tg.cv ?_) | (with_reducible exact Tg.pure) | (with_reducible apply tg_fX9_gridFault) | (with_reducible apply tg_fX9_hasPlace))
theorem tg_fX10_foldCells_j197 (l0 : Option Nat) (l7 : Int32) (s0 : Option Nat) (s1 : Int64) : Tg (fX10_foldCells_j197 l0 l7 s0 s1) := by
  unfold fX10_foldCells_j197
  repeat (first | (with_reducible refine Tg.bind ?_ (fun _ => ?_)) | (with_reducible exact Tg.gi) | (with_reducible exact Tg.gr) | (with_reducible exact Tg.pi) | (with_reducible exact Tg.pl) | (with_reducible exact Tg.pure))
theorem tg_fX10_foldCells_j146 (l0 : Option Nat) (l1 : Int32) (l2 : Int32) (l3 : Int32) (l4 : Int32) (l5 : Int32) (l7 : Int32) (l8 : Int32) (l9 : Int32) (l10 : Int32) : Tg (fX10_foldCells_j146 l0 l1 l2 l3 l4 l5 l7 l8 l9 l10) := by
  unfold fX10_foldCells_j146
  repeat (first | (with_reducible exact Tg.pure))
theorem tg_fX10_foldCells_j143 (l0 : Option Nat) (l1 : Int32) (l2 : Int32) (l3 : Int32) (l4 : Int32) (l5 : Int32) (l8 : Int32) (l9 : Int32) (l10 : Int32) (s0 : Int32) (s1 : Bool) : Tg (fX10_foldCells_j143 l0 l1 l2 l3 l4 l5 l8 l9 l10 s0 s1) := by
  unfold fX10_foldCells_j143
  repeat (first | (with_reducible apply tg_fX10_foldCells_j146))
theorem tg_fX10_foldCells_b94 (c0 : Option Nat) (c1 : Int32) (c2 : Int32) (c3 : Int32) (c4 : Int32) (c5 : Int32) (c8 : Int32) (c9 : Int32) (s94 : Int32 × Int32) : Tg (fX10_foldCells_b94 c0 c1 c2 c3 c4 c5 c8 c9 s94) := by
  unfold fX10_foldCells_b94
  repeat (first | (with_reducible refine Tg.bind ?_ (fun _ => ?_)) | (with_reducible refine Tg.ite ?_ ?_) | (with_reducible refine Tg.cv ?_) | (with_reducible exact Tg.gr) | (with_reducible exact Tg.pure) | (with_reducible apply tg_fX10_isChosen) | (with_reducible apply tg_fX9_rowAt) | (with_reducible apply tg_fX10_take) | (with_reducible apply tg_fX10_foldCells_j143) | (with_reducible apply tg_fX10_foldCells_j146))
theorem tg_fX10_foldCells_b65 (c0 : Option Nat) (c1 : Int32) (c2 : Int32) (c3 : Int32) (c4 : Int32) (c5 : Int32) (s65 : Int32 × Int32) : Tg (fX10_foldCells_b65 c0 c1 c2 c3 c4 c5 s65) := by
  unfold fX10_foldCells_b65
  repeat (first | (with_reducible refine Tg.bind ?_ (fun _ => ?_)) | (with_reducible refine Tg.ite ?_ ?_) | (with_reducible refine Tg.it (fun _ => ?_) _ _) | (with_reducible refine Tg.cv ?_) | (with_reducible exact Tg.gr) | (with_reducible exact Tg.ai) | (with_reducible exact Tg.pure) | (with_reducible apply tg_fX9_cellsAt) | (with_reducible apply tg_fX10_foldCells_b94))
theorem tg_fX10_foldCells_j45 (l0 : Option Nat) (l1 : Int32) (l2 : Int32) (l3 : Int32) (l4 : Int32) (l5 : Int32) (s0 : Int32) : Tg (fX10_foldCells_j45 l0 l1 l2 l3 l4 l5 s0) := by
  unfold fX10_foldCells_j45
  repeat (first | (with_reducible refine Tg.bind ?_ (fun _ => ?_)) | (with_reducible refine Tg.ite ?_ ?_) | (with_reducible refine Tg.it (fun _ => ?_) _ _) | (with_reducible refine Tg.cv ?_) | (with_reducible exact Tg.gi) | (with_reducible exact Tg.gl) | (with_reducible exact Tg.gd) | (with_reducible exact Tg.gr) | (with_reducible exact Tg.pure) | (with_reducible apply tg_fX10_begin) | (with_reducible apply tg_fX10_foldCells_b65) | (with_reducible apply tg_fX10_foldCells_j197) | (with_reducible apply tg_fX12_codeOfReal))
theorem tg_fX10_foldCells (r0 : Option Nat) (p1 : Int32) (p2 : Int32) (p3 : Int32) (p4 : Int32) (p5 : Int32) : Tg (fX10_foldCells r0 p1 p2 p3 p4 p5) := by
  unfold fX10_foldCells
  repeat (first | (with_reducible refine Tg.bind ?_ (fun _ => ?_)) | (with_reducible refine Tg.ite ?_ ?_) | (with_reducible refine Tg.cv ?_) | (with_reducible exact Tg.gr) | (with_reducible exact Tg.pure) | (with_reducible apply tg_fX12_isGrid) | (with_reducible apply tg_fX10_isFoldable) | (with_reducible apply tg_fX9_gridFault) | (with_reducible apply tg_fX10_foldCells_j45) | (with_reducible apply tg_fX9_placeFault))
theorem tg_fX9_rowFault (r0 : Option Nat) (p1 : Int32) (p2 : Int32) : Tg (fX9_rowFault r0 p1 p2) := by
  unfold fX9_rowFault
  repeat (first | (with_reducible refine Tg.bind ?_ (fun _ => ?_)) | (with_reducible refine Tg.ite ?_ ?_) | (with_reducible refine Tg.cv ?_) | (with_reducible exact Tg.gr) | (with_reducible exact Tg.ai) | (with_reducible exact Tg.pure) | (with_reducible apply tg_fX9_placeFault))
theorem tg_fX10_sumProducts_j237 (l8 : Int32) (s0 : Option Nat) (s1 : Int64) : Tg (fX10_sumProducts_j237 l8 s0 s1) := by
  unfold fX10_sumProducts_j237
  repeat (first | (with_reducible refine Tg.bind ?_ (fun _ => ?_)) | (with_reducible exact Tg.pl) | (with_reducible exact Tg.pure))
theorem tg_fX10_sumProducts_j206 (l0 : Option Nat) (l5 : Int32) (l6 : Option Nat) (l7 : Option Nat) (l8 : Int32) (l9 : Int32) : Tg (fX10_sumProducts_j206 l0 l5 l6 l7 l8 l9) := by
  unfold fX10_sumProducts_j206
  repeat (first | (with_reducible exact Tg.pure))
theorem tg_fX10_sumProducts_b134 (c0 : Option Nat) (c5 : Int32) (c6 : Option Nat) (c7 : Option Nat) (c8 : Int32) (s134 : Int32) : Tg (fX10_sumProducts_b134 c0 c5 c6 c7 c8 s134) := by
  unfold fX10_sumProducts_b134
  repeat (first | (with_reducible refine Tg.bind ?_ (fun _ => ?_)) | (with_reducible refine Tg.ite ?_ ?_) | (with_reducible refine Tg.cv ?_) | (with_reducible exact Tg.gl) | (with_reducible exact Tg.gd) | (with_reducible exact Tg.gr) | (with_reducible exact Tg.pl) | (with_reducible exact Tg.pd) | (with_reducible exact Tg.al) | (with_reducible exact Tg.n64) | (with_reducible exact Tg.pure) | (with_reducible apply tg_fX12_narrowed) | (with_reducible apply tg_fX10_sumProducts_j206) | (with_reducible apply tg_fX5_doubleAt))
theorem tg_fX10_sumProducts_j127 (l0 : Option Nat) (l5 : Int32) (l6 : Option Nat) (l7 : Option Nat) (l8 : Int32) : Tg (fX10_sumProducts_j127 l0 l5 l6 l7 l8) := by
  unfold fX10_sumProducts_j127
  repeat (first | (with_reducible refine Tg.bind ?_ (fun _ => ?_)) | (with_reducible refine Tg.ite ?_ ?_) | (with_reducible refine Tg.it (fun _ => ?_) _ _) | (with_reducible refine Tg.cv ?_) | (with_reducible exact Tg.gl) | (with_reducible exact Tg.gd) | (with_reducible exact Tg.gr) | (with_reducible apply tg_fX10_begin) | (with_reducible apply tg_fX10_sumProducts_b134) | (with_reducible apply tg_fX10_sumProducts_j237) | (with_reducible apply tg_fX12_codeOfReal))
theorem tg_fX10_sumProducts (r0 : Option Nat) (p1 : Int32) (p2 : Int32) (p3 : Int32) (p4 : Int32) (p5 : Int32) : Tg (fX10_sumProducts r0 p1 p2 p3 p4 p5) := by
  unfold fX10_sumProducts
  repeat (first | (with_reducible refine Tg.bind ?_ (fun _ => ?_)) | (with_reducible refine Tg.ite ?_ ?_) | (with_reducible refine Tg.oelim ?_ (fun _ => ?_)) | (with_reducible refine Tg.selim (fun _ => ?_) (fun _ => ?_)) | (with_reducible refine Tg.cv ?_) | (with_reducible exact Tg.gi) | (with_reducible exact Tg.gr) | (with_reducible exact Tg.pure) | (with_reducible apply tg_fX12_isGrid) | (with_reducible apply tg_fX10_isSummed) | (with_reducible apply tg_fX9_rowAt) | (with_reducible apply tg_fX9_rowFault) | (with_reducible apply tg_fJ9_min_7cf53) | (with_reducible apply tg_fX10_sumProducts_j127) | (with_reducible apply tg_fX12_readsAs))
theorem tg_fX11_addProducts_j74 (l0 : Option Nat) (l1 : Option Nat) (l2 : Option Nat) (l3 : Int32) (l4 : Int32) : Tg (fX11_addProducts_j74 l0 l1 l2 l3 l4) := by
  unfold fX11_addProducts_j74
  repeat (first | (with_reducible exact Tg.pure))
theorem tg_fX11_addProducts_b32 (c0 : Option Nat) (c1 : Option Nat) (c2 : Option Nat) (c3 : Int32) (c4 : Int32) (c5 : Option Nat) (s32 : Int32) : Tg (fX11_addProducts_b32 c0 c1 c2 c3 c4 c5 s32) := by
  unfold fX11_addProducts_b32
  repeat (first | (with_reducible refine Tg.bind ?_ (fun _ => ?_)) | (with_reducible refine Tg.ite ?_ ?_) | (with_reducible exact Tg.gi) | (with_reducible exact Tg.gr) | (with_reducible exact Tg.al) | (with_reducible exact Tg.tl) | (with_reducible exact Tg.pure))
theorem tg_fX11_addProducts_b3 (c0 : Option Nat) (c1 : Option Nat) (c2 : Option Nat) (c3 : Int32) (s3 : Int32) : Tg (fX11_addProducts_b3 c0 c1 c2 c3 s3) := by
  unfold fX11_addProducts_b3
  repeat (first | (with_reducible refine Tg.bind ?_ (fun _ => ?_)) | (with_reducible refine Tg.ite ?_ ?_) | (with_reducible refine Tg.oelim ?_ (fun _ => ?_)) | (with_reducible refine Tg.selim (fun _ => ?_) (fun _ => ?_)) | (with_reducible refine Tg.it (fun _ => ?_) _ _) | (with_reducible refine Tg.cv ?_) | (with_reducible exact Tg.gi) | (with_reducible exact Tg.gr) | (with_reducible exact Tg.pure) | (with_reducible apply tg_fX9_rowAt) | (with_reducible apply tg_fX11_addProducts_j74) | (with_reducible apply tg_fX11_addProducts_b32))
theorem tg_fX11_addProducts (r0 : Option Nat) (r1 : Option Nat) (r2 : Option Nat) (p3 : Int32) : Tg (fX11_addProducts r0 r1 r2 p3) := by
  unfold fX11_addProducts
  repeat (first | (with_reducible refine Tg.bind ?_ (fun _ => ?_)) | (with_reducible refine Tg.it (fun _ => ?_) _ _) | (with_reducible exact Tg.pure) | (with_reducible apply tg_fX11_addProducts_b3))
theorem tg_fX5_floatAt (r0 : Option Nat) (p1 : Int32) : Tg (fX5_floatAt r0 p1) := by
  unfold fX5_floatAt
  repeat (first | (with_reducible refine Tg.bind ?_ (fun _ => ?_)) | (with_reducible refine Tg.ite ?_ ?_) | (with_reducible exact Tg.gr) | (with_reducible exact Tg.ai) | (with_reducible exact Tg.al) | (with_reducible exact Tg.ad) | (with_reducible exact Tg.n32) | (with_reducible exact Tg.pure) | (with_reducible apply tg_fX12_isReal))
theorem tg_fX5_accept_j85 (s0 : Option Nat) (s1 : Int32) (s2 : UInt64) : Tg (fX5_accept_j85 s0 s1 s2) := by
  unfold fX5_accept_j85
  repeat (first | (with_reducible refine Tg.bind ?_ (fun _ => ?_)) | (with_reducible exact Tg.td) | (with_reducible exact Tg.pure))
theorem tg_fX5_accept_j46 (l0 : Option Nat) (l1 : Int32) (l2 : Option Nat) (l3 : Int32) (s0 : Option Nat) (s1 : Int32) (s2 : Int32) : Tg (fX5_accept_j46 l0 l1 l2 l3 s0 s1 s2) := by
  unfold fX5_accept_j46
  repeat (first | (with_reducible refine Tg.bind ?_ (fun _ => ?_)) | (with_reducible refine Tg.ite ?_ ?_) | (with_reducible refine Tg.cv ?_) | (with_reducible exact Tg.gi) | (with_reducible exact Tg.gr) | (with_reducible exact Tg.al) | (with_reducible exact Tg.ad) | (with_reducible exact Tg.ti) | (with_reducible exact Tg.tl) | (with_reducible exact Tg.td) | (with_reducible exact Tg.n64) | (with_reducible exact Tg.pure) | (with_reducible apply tg_fX12_isReal) | (with_reducible apply tg_fX5_doubleAt) | (with_reducible apply tg_fX5_accept_j85) | (with_reducible apply tg_fX5_floatAt))
theorem tg_fX5_accept (r0 : Option Nat) (p1 : Int32) (r2 : Option Nat) (p3 : Int32) : Tg (fX5_accept r0 p1 r2 p3) := by
  unfold fX5_accept
  repeat (first | (with_reducible refine Tg.bind ?_ (fun _ => ?_)) | (with_reducible refine Tg.ite ?_ ?_) | (with_reducible exact Tg.gi) | (with_reducible exact Tg.gr) | (with_reducible exact Tg.ai) | (with_reducible exact Tg.pure) | (with_reducible apply tg_fX12_takes) | (with_reducible apply tg_fX12_isPlain) | (with_reducible apply tg_fX5_accept_j46))
theorem tg_fX6_append_b3 (c0 : Option Nat) (c1 : Int32) (c2 : Option Nat) (c3 : Int32) (c4 : Int32) (s3 : Int32) : Tg (fX6_append_b3 c0 c1 c2 c3 c4 s3) := by
  unfold fX6_append_b3
  repeat (first | (with_reducible refine Tg.bind ?_ (fun _ => ?_)) | (with_reducible refine Tg.ite ?_ ?_) | (with_reducible refine Tg.cv ?_) | (with_reducible exact Tg.pure) | (with_reducible apply tg_fX5_accept))
theorem tg_fX6_append (r0 : Option Nat) (p1 : Int32) (r2 : Option Nat) (p3 : Int32) (p4 : Int32) : Tg (fX6_append r0 p1 r2 p3 p4) := by
  unfold fX6_append
  repeat (first | (with_reducible refine Tg.bind ?_ (fun _ => ?_)) | (with_reducible refine Tg.it (fun _ => ?_) _ _) | (with_reducible exact Tg.pure) | (with_reducible apply tg_fX6_append_b3))
theorem tg_fX9_finishGrid_b14 (c0 : Option Nat) (c1 : Int32) (s14 : Int32) : Tg (fX9_finishGrid_b14 c0 c1 s14) := by
  unfold fX9_finishGrid_b14
  repeat (first | (with_reducible refine Tg.bind ?_ (fun _ => ?_)) | (with_reducible refine Tg.ite ?_ ?_) | (with_reducible exact Tg.gr) | (with_reducible exact Tg.ai) | (with_reducible exact Tg.ti) | (with_reducible exact Tg.pure))
theorem tg_fX9_finishGrid (r0 : Option Nat) (p1 : Int32) : Tg (fX9_finishGrid r0 p1) := by
  unfold fX9_finishGrid
  repeat (first | (with_reducible refine Tg.bind ?_ (fun _ => ?_)) | (with_reducible refine Tg.it (fun _ => ?_) _ _) | (with_reducible exact Tg.gr) | (with_reducible exact Tg.ai) | (with_reducible exact Tg.ti) | (with_reducible exact Tg.pure) | (with_reducible apply tg_fX9_finishGrid_b14))
theorem tg_fX5_begin_j26 (l0 : Option Nat) (s0 : Option Nat) (s1 : Int32) : Tg (fX5_begin_j26 l0 s0 s1) := by
  unfold fX5_begin_j26
  repeat (first | (with_reducible refine Tg.bind ?_ (fun _ => ?_)) | (with_reducible exact Tg.gr) | (with_reducible exact Tg.pure) | (with_reducible apply tg_fJ7_fill_53178) | (with_reducible apply tg_fJ7_fill_d0a16) | (with_reducible apply tg_fJ7_fill_7f8df))
theorem tg_fX5_begin (r0 : Option Nat) (p1 : Int32) (p2 : Int32) : Tg (fX5_begin r0 p1 p2) := by
  unfold fX5_begin
  repeat (first | (with_reducible refine Tg.bind ?_ (fun _ => ?_)) | (with_reducible refine Tg.ite ?_ ?_) | (with_reducible exact Tg.gr) | (with_reducible exact Tg.pi) | (with_reducible apply tg_fX5_begin_j26))
theorem tg_fX9_firstHolder_b2 (c0 : Option Nat) (c1 : Int32) (s2 : Int32) : Tg (fX9_firstHolder_b2 c0 c1 s2) := by
  unfold fX9_firstHolder_b2
  repeat (first | (with_reducible refine Tg.bind ?_ (fun _ => ?_)) | (with_reducible refine Tg.ite ?_ ?_) | (with_reducible exact Tg.gr) | (with_reducible exact Tg.ln) | (with_reducible exact Tg.ai) | (with_reducible exact Tg.pure))
theorem tg_fX9_firstHolder (r0 : Option Nat) (p1 : Int32) : Tg (fX9_firstHolder r0 p1) := by
  unfold fX9_firstHolder
  repeat (first | (with_reducible refine Tg.bind ?_ (fun _ => ?_)) | (with_reducible refine Tg.oelim ?_ (fun _ => ?_)) | (with_reducible refine Tg.selim (fun _ => ?_) (fun _ => ?_)) | (with_reducible refine Tg.it (fun _ => ?_) _ _) | (with_reducible exact Tg.pure) | (with_reducible apply tg_fX9_firstHolder_b2))
theorem tg_fX9_freshRow_j24 (l0 : Option Nat) (l1 : Int32) (l2 : Int32) (l3 : Int32) : Tg (fX9_freshRow_j24 l0 l1 l2 l3) := by
  unfold fX9_freshRow_j24
  repeat (first | (with_reducible refine Tg.bind ?_ (fun _ => ?_)) | (with_reducible refine Tg.cv ?_) | (with_reducible exact Tg.gr) | (with_reducible exact Tg.ar) | (with_reducible exact Tg.pure) | (with_reducible apply tg_fX5_begin))
theorem tg_fX9_freshRow_b2 (c0 : Option Nat) (c1 : Int32) (c2 : Int32) (s2 : Int32) : Tg (fX9_freshRow_b2 c0 c1 c2 s2) := by
  unfold fX9_freshRow_b2
  repeat (first | (with_reducible refine Tg.bind ?_ (fun _ => ?_)) | (with_reducible refine Tg.ite ?_ ?_) | (with_reducible refine Tg.cv ?_) | (with_reducible exact Tg.pure) | (with_reducible apply tg_fX9_firstHolder))
theorem tg_fX9_freshRow (r0 : Option Nat) (p1 : Int32) (p2 : Int32) : Tg (fX9_freshRow r0 p1 p2) := by
  unfold fX9_freshRow
  repeat (first | (with_reducible refine Tg.bind ?_ (fun _ => ?_)) | (with_reducible refine Tg.it (fun _ => ?_) _ _) | (with_reducible apply tg_fX9_freshRow_b2) | (with_reducible apply tg_fX9_freshRow_j24))
theorem tg_fX9_place (r0 : Option Nat) (p1 : Int32) (p2 : Int32) (r3 : Option Nat) : Tg (fX9_place r0 p1 p2 r3) := by
  unfold fX9_place
  repeat (first | (with_reducible refine Tg.bind ?_ (fun _ => ?_)) | (with_reducible exact Tg.gi) | (with_reducible exact Tg.gr) | (with_reducible exact Tg.ti) | (with_reducible exact Tg.pure))
theorem tg_fX9_rowOfNewGrid (r0 : Option Nat) (p1 : Int32) (p2 : Int32) (p3 : Int32) : Tg (fX9_rowOfNewGrid r0 p1 p2 p3) := by
  unfold fX9_rowOfNewGrid
  repeat (first | (with_reducible refine Tg.bind ?_ (fun _ => ?_)) | (with_reducible refine Tg.cv ?_) | (with_reducible exact Tg.pure) | (with_reducible apply tg_fX9_freshRow) | (with_reducible apply tg_fX9_place))
theorem tg_fX9_startGrid (r0 : Option Nat) (p1 : Int32) : Tg (fX9_startGrid r0 p1) := by
  unfold fX9_startGrid
  repeat (first | (with_reducible refine Tg.bind ?_ (fun _ => ?_)) | (with_reducible exact Tg.gr) | (with_reducible exact Tg.ti) | (with_reducible exact Tg.pure))
theorem tg_fX11_dealOut_b89 (c0 : Option Nat) (c3 : Int32) (c4 : Int32) (c5 : Option Nat) (c6 : Int32) (s89 : Int32) : Tg (fX11_dealOut_b89 c0 c3 c4 c5 c6 s89) := by
  unfold fX11_dealOut_b89
  repeat (first | (with_reducible refine Tg.bind ?_ (fun _ => ?_)) | (with_reducible refine Tg.ite ?_ ?_) | (with_reducible refine Tg.cv ?_) | (with_reducible exact Tg.gi) | (with_reducible exact Tg.gr) | (with_reducible exact Tg.pure) | (with_reducible apply tg_fJ9_min_7cf53) | (with_reducible apply tg_fX9_rowOfNewGrid) | (with_reducible apply tg_fX6_append))
theorem tg_fX11_dealOut (r0 : Option Nat) (p1 : Int32) (p2 : Int32) (p3 : Int32) (p4 : Int32) : Tg (fX11_dealOut r0 p1 p2 p3 p4) := by
  unfold fX11_dealOut
  repeat (first | (with_reducible refine Tg.bind ?_ (fun _ => ?_)) | (with_reducible refine Tg.ite ?_ ?_) | (with_reducible refine Tg.oelim ?_ (fun _ => ?_)) | (with_reducible refine Tg.selim (fun _ => ?_) (fun _ => ?_)) | (with_reducible refine Tg.it (fun _ => ?_) _ _) | (with_reducible refine Tg.cv ?_) | (with_reducible exact Tg.gi) | (with_reducible exact Tg.gr) | (with_reducible exact Tg.nz) | (with_reducible exact Tg.pure) | (with_reducible apply tg_fX12_isGrid) | (with_reducible apply tg_fX9_rowAt) | (with_reducible apply tg_fX9_rowFault) | (with_reducible apply tg_fX9_startGrid) | (with_reducible apply tg_fX11_dealOut_b89) | (with_reducible apply tg_fX9_finishGrid))
theorem tg_fX12_leastKind_b2 (c0 : Int32) (s2 : Int32) : Tg (fX12_leastKind_b2 c0 s2) := by
  unfold fX12_leastKind_b2
  repeat (first | (with_reducible refine Tg.ite ?_ ?_) | (with_reducible exact Tg.pure))
theorem tg_fX12_leastKind_b32 (c0 : Int32) (s32 : Int32) : Tg (fX12_leastKind_b32 c0 s32) := by
  unfold fX12_leastKind_b32
  repeat (first | (with_reducible refine Tg.bind ?_ (fun _ => ?_)) | (with_reducible refine Tg.ite ?_ ?_) | (with_reducible exact Tg.xt) | (with_reducible exact Tg.pure))
theorem tg_fX12_leastKind (p0 : Int32) : Tg (fX12_leastKind p0) := by
  unfold fX12_leastKind
  repeat (first | (with_reducible refine Tg.bind ?_ (fun _ => ?_)) | (with_reducible refine Tg.ite ?_ ?_) | (with_reducible refine Tg.oelim ?_ (fun _ => ?_)) | (with_reducible refine Tg.selim (fun _ => ?_) (fun _ => ?_)) | (with_reducible refine Tg.it (fun _ => ?_) _ _) | (with_reducible exact Tg.pure) | (with_reducible apply tg_fX12_leastKind_b2) | (with_reducible apply tg_fX12_leastKind_b32))
theorem tg_fX11_flatten_j112 (l0 : Option Nat) (l1 : Int32) (l2 : Int32) (l3 : Int32) (l5 : Int32) (l6 : Int32) (l7 : Int32) : Tg (fX11_flatten_j112 l0 l1 l2 l3 l5 l6 l7) := by
  unfold fX11_flatten_j112
  repeat (first | (with_reducible exact Tg.pure))
theorem tg_fX11_flatten_b59 (c0 : Option Nat) (c1 : Int32) (c2 : Int32) (c3 : Int32) (s59 : Int32 × Int32 × Int32) : Tg (fX11_flatten_b59 c0 c1 c2 c3 s59) := by
  unfold fX11_flatten_b59
  repeat (first | (with_reducible refine Tg.bind ?_ (fun _ => ?_)) | (with_reducible refine Tg.ite ?_ ?_) | (with_reducible refine Tg.oelim ?_ (fun _ => ?_)) | (with_reducible refine Tg.selim (fun _ => ?_) (fun _ => ?_)) | (with_reducible refine Tg.cv ?_) | (with_reducible exact Tg.gi) | (with_reducible exact Tg.gr) | (with_reducible exact Tg.ai) | (with_reducible exact Tg.pure) | (with_reducible apply tg_fX9_rowAt) | (with_reducible apply tg_fX11_flatten_j112))
theorem tg_fX11_flatten_j206 (l0 : Option Nat) (l1 : Int32) (l2 : Int32) (l3 : Int32) (l5 : Int32) (l7 : Option Nat) (l8 : Int32) (l9 : Int32) : Tg (fX11_flatten_j206 l0 l1 l2 l3 l5 l7 l8 l9) := by
  unfold fX11_flatten_j206
  repeat (first | (with_reducible exact Tg.pure))
theorem tg_fX11_flatten_b150 (c0 : Option Nat) (c1 : Int32) (c2 : Int32) (c3 : Int32) (c5 : Int32) (c7 : Option Nat) (s150 : Int32 × Int32) : Tg (fX11_flatten_b150 c0 c1 c2 c3 c5 c7 s150) := by
  unfold fX11_flatten_b150
  repeat (first | (with_reducible refine Tg.bind ?_ (fun _ => ?_)) | (with_reducible refine Tg.ite ?_ ?_) | (with_reducible refine Tg.oelim ?_ (fun _ => ?_)) | (with_reducible refine Tg.selim (fun _ => ?_) (fun _ => ?_)) | (with_reducible refine Tg.cv ?_) | (with_reducible exact Tg.gi) | (with_reducible exact Tg.gr) | (with_reducible exact Tg.ai) | (with_reducible exact Tg.pure) | (with_reducible apply tg_fX9_rowAt) | (with_reducible apply tg_fX11_flatten_j206) | (with_reducible apply tg_fX6_append))
theorem tg_fX11_flatten_j42 (l0 : Option Nat) (l1 : Int32) (l2 : Int32) (l3 : Int32) (l4 : Int32) : Tg (fX11_flatten_j42 l0 l1 l2 l3 l4) := by
  unfold fX11_flatten_j42
  repeat (first | (with_reducible refine Tg.bind ?_ (fun _ => ?_)) | (with_reducible refine Tg.ite ?_ ?_) | (with_reducible refine Tg.it (fun _ => ?_) _ _) | (with_reducible refine Tg.cv ?_) | (with_reducible exact Tg.gr) | (with_reducible exact Tg.pure) | (with_reducible apply tg_fX11_flatten_b59) | (with_reducible apply tg_fX12_leastKind) | (with_reducible apply tg_fX9_freshRow) | (with_reducible apply tg_fX11_flatten_b150) | (with_reducible apply tg_fX9_place))
theorem tg_fX11_flatten (r0 : Option Nat) (p1 : Int32) (p2 : Int32) (p3 : Int32) : Tg (fX11_flatten r0 p1 p2 p3) := by
  unfold fX11_flatten
  repeat (first | (with_reducible refine Tg.bind ?_ (fun _ => ?_)) | (with_reducible refine Tg.ite ?_ ?_) | (with_reducible refine Tg.cv ?_) | (with_reducible exact Tg.gr) | (with_reducible exact Tg.pure) | (with_reducible apply tg_fX12_isGrid) | (with_reducible apply tg_fX9_gridFault) | (with_reducible apply tg_fX11_flatten_j42) | (with_reducible apply tg_fX9_placeFault))
theorem tg_fX5_hasCell (r0 : Option Nat) (p1 : Int32) : Tg (fX5_hasCell r0 p1) := by
  unfold fX5_hasCell
  repeat (first | (with_reducible refine Tg.bind ?_ (fun _ => ?_)) | (with_reducible refine Tg.ite ?_ ?_) | (with_reducible exact Tg.gi) | (with_reducible exact Tg.pure))
theorem tg_fX11_makeColumn_j63 (l0 : Option Nat) (l1 : Int32) (l2 : Int32) (l3 : Int32) (l4 : Int32) (l5 : Int32) : Tg (fX11_makeColumn_j63 l0 l1 l2 l3 l4 l5) := by
  unfold fX11_makeColumn_j63
  repeat (first | (with_reducible exact Tg.pure))
theorem tg_fX11_makeColumn_b8 (c0 : Option Nat) (c1 : Int32) (c2 : Int32) (s8 : Int32 × Int32 × Int32) : Tg (fX11_makeColumn_b8 c0 c1 c2 s8) := by
  unfold fX11_makeColumn_b8
  repeat (first | (with_reducible refine Tg.bind ?_ (fun _ => ?_)) | (with_reducible refine Tg.ite ?_ ?_) | (with_reducible refine Tg.oelim ?_ (fun _ => ?_)) | (with_reducible refine Tg.selim (fun _ => ?_) (fun _ => ?_)) | (with_reducible refine Tg.cv ?_) | (with_reducible exact Tg.gi) | (with_reducible exact Tg.gr) | (with_reducible exact Tg.ai) | (with_reducible exact Tg.pure) | (with_reducible apply tg_fX9_rowAt) | (with_reducible apply tg_fX11_makeColumn_j63) | (with_reducible apply tg_fX5_hasCell))
theorem tg_fX11_makeColumn_j145 (l0 : Option Nat) (l1 : Int32) (l2 : Int32) (l5 : Option Nat) (l6 : Int32) (l7 : Int32) : Tg (fX11_makeColumn_j145 l0 l1 l2 l5 l6 l7) := by
  unfold fX11_makeColumn_j145
  repeat (first | (with_reducible exact Tg.pure))
theorem tg_fX11_makeColumn_b91 (c0 : Option Nat) (c1 : Int32) (c2 : Int32) (c5 : Option Nat) (s91 : Int32 × Int32) : Tg (fX11_makeColumn_b91 c0 c1 c2 c5 s91) := by
  unfold fX11_makeColumn_b91
  repeat (first | (with_reducible refine Tg.bind ?_ (fun _ => ?_)) | (with_reducible refine Tg.ite ?_ ?_) | (with_reducible refine Tg.oelim ?_ (fun _ => ?_)) | (with_reducible refine Tg.selim (fun _ => ?_) (fun _ => ?_)) | (with_reducible refine Tg.cv ?_) | (with_reducible exact Tg.gr) | (with_reducible exact Tg.ai) | (with_reducible exact Tg.pure) | (with_reducible apply tg_fX9_rowAt) | (with_reducible apply tg_fX11_makeColumn_j145) | (with_reducible apply tg_fX5_hasCell) | (with_reducible apply tg_fX5_accept))
theorem tg_fX11_makeColumn (r0 : Option Nat) (p1 : Int32) (p2 : Int32) : Tg (fX11_makeColumn r0 p1 p2) := by
  unfold fX11_makeColumn
  repeat (first | (with_reducible refine Tg.bind ?_ (fun _ => ?_)) | (with_reducible refine Tg.it (fun _ => ?_) _ _) | (with_reducible refine Tg.cv ?_) | (with_reducible exact Tg.gr) | (with_reducible exact Tg.pure) | (with_reducible apply tg_fX11_makeColumn_b8) | (with_reducible apply tg_fX12_leastKind) | (with_reducible apply tg_fX9_rowOfNewGrid) | (with_reducible apply tg_fX11_makeColumn_b91))
theorem tg_fX5_cellsReadAs_j18  : Tg (fX5_cellsReadAs_j18 ) := by
  unfold fX5_cellsReadAs_j18
  repeat (first | (with_reducible exact Tg.pure))
theorem tg_fX5_cellsReadAs (r0 : Option Nat) (p1 : Int32) : Tg (fX5_cellsReadAs r0 p1) := by
  unfold fX5_cellsReadAs
  repeat (first | (with_reducible refine Tg.bind ?_ (fun _ => ?_)) | (with_reducible refine Tg.ite ?_ ?_) | (with_reducible exact Tg.gi) | (with_reducible exact Tg.pure) | (with_reducible apply tg_fX5_cellsReadAs_j18) | (with_reducible apply tg_fX12_readsAs))
theorem tg_fX9_firstUnreadable_j36 (l0 : Option Nat) (l1 : Int32) (l2 : Int32) (l3 : Int32) : Tg (fX9_firstUnreadable_j36 l0 l1 l2 l3) := by
  unfold fX9_firstUnreadable_j36
  repeat (first | (with_reducible exact Tg.pure))
theorem tg_fX9_firstUnreadable_b2 (c0 : Option Nat) (c1 : Int32) (c2 : Int32) (s2 : Int32) : Tg (fX9_firstUnreadable_b2 c0 c1 c2 s2) := by
  unfold fX9_firstUnreadable_b2
  repeat (first | (with_reducible refine Tg.bind ?_ (fun _ => ?_)) | (with_reducible refine Tg.ite ?_ ?_) | (with_reducible refine Tg.oelim ?_ (fun _ => ?_)) | (with_reducible refine Tg.selim (fun _ => ?_) (fun _ => ?_)) | (with_reducible refine Tg.cv ?_) | (with_reducible exact Tg.gr) | (with_reducible exact Tg.ai) | (with_reducible exact Tg.pure) | (with_reducible apply tg_fX9_rowAt) | (with_reducible apply tg_fX9_firstUnreadable_j36) | (with_reducible apply tg_fX5_cellsReadAs))
theorem tg_fX9_firstUnreadable (r0 : Option Nat) (p1 : Int32) (p2 : Int32) : Tg (fX9_firstUnreadable r0 p1 p2) := by
  unfold fX9_firstUnreadable
  repeat (first | (with_reducible refine Tg.bind ?_ (fun _ => ?_)) | (with_reducible refine Tg.oelim ?_ (fun _ => ?_)) | (with_reducible refine Tg.selim (fun _ => ?_) (fun _ => ?_)) | (with_reducible refine Tg.it (fun _ => ?_) _ _) | (with_reducible exact Tg.pure) | (with_reducible apply tg_fX9_firstUnreadable_b2))
theorem tg_fX9_longestRow_b4 (c0 : Option Nat) (c1 : Int32) (s4 : Int32 × Int32) : Tg (fX9_longestRow_b4 c0 c1 s4) := by
  unfold fX9_longestRow_b4
  repeat (first | (with_reducible refine Tg.bind ?_ (fun _ => ?_)) | (with_reducible refine Tg.ite ?_ ?_) | (with_reducible refine Tg.cv ?_) | (with_reducible exact Tg.gr) | (with_reducible exact Tg.ai) | (with_reducible exact Tg.pure) | (with_reducible apply tg_fX9_cellsAt) | (with_reducible apply tg_fJ9_max_7cf53))
theorem tg_fX9_longestRow (r0 : Option Nat) (p1 : Int32) : Tg (fX9_longestRow r0 p1) := by
  unfold fX9_longestRow
  repeat (first | (with_reducible refine Tg.bind ?_ (fun _ => ?_)) | (with_reducible refine Tg.it (fun _ => ?_) _ _) | (with_reducible exact Tg.pure) | (with_reducible apply tg_fX9_longestRow_b4))
theorem tg_fX11_multiply_j194 (l0 : Option Nat) (l1 : Int32) (l2 : Int32) (l3 : Int32) (l5 : Int32) (l6 : Int32) : Tg (fX11_multiply_j194 l0 l1 l2 l3 l5 l6) := by
  unfold fX11_multiply_j194
  repeat (first | (with_reducible exact Tg.pure))
theorem tg_fX11_multiply_b144 (c0 : Option Nat) (c1 : Int32) (c2 : Int32) (c3 : Int32) (c5 : Int32) (s144 : Int32) : Tg (fX11_multiply_b144 c0 c1 c2 c3 c5 s144) := by
  unfold fX11_multiply_b144
  repeat (first | (with_reducible refine Tg.bind ?_ (fun _ => ?_)) | (with_reducible refine Tg.ite ?_ ?_) | (with_reducible refine Tg.oelim ?_ (fun _ => ?_)) | (with_reducible refine Tg.selim (fun _ => ?_) (fun _ => ?_)) | (with_reducible refine Tg.cv ?_) | (with_reducible exact Tg.gr) | (with_reducible exact Tg.ai) | (with_reducible exact Tg.pure) | (with_reducible apply tg_fX9_rowAt) | (with_reducible apply tg_fX11_multiply_j194) | (with_reducible apply tg_fX9_rowOfNewGrid) | (with_reducible apply tg_fX11_addProducts))
theorem tg_fX11_multiply_j96 (l0 : Option Nat) (l1 : Int32) (l2 : Int32) (l3 : Int32) (l4 : Int32) : Tg (fX11_multiply_j96 l0 l1 l2 l3 l4) := by
  unfold fX11_multiply_j96
  repeat (first | (with_reducible refine Tg.bind ?_ (fun _ => ?_)) | (with_reducible refine Tg.ite ?_ ?_) | (with_reducible refine Tg.it (fun _ => ?_) _ _) | (with_reducible refine Tg.cv ?_) | (with_reducible exact Tg.gr) | (with_reducible exact Tg.pi) | (with_reducible exact Tg.ai) | (with_reducible exact Tg.pure) | (with_reducible apply tg_fX9_longestRow) | (with_reducible apply tg_fX9_startGrid) | (with_reducible apply tg_fX11_multiply_b144) | (with_reducible apply tg_fX9_finishGrid))
theorem tg_fX11_multiply (r0 : Option Nat) (p1 : Int32) (p2 : Int32) (p3 : Int32) : Tg (fX11_multiply r0 p1 p2 p3) := by
  unfold fX11_multiply
  repeat (first | (with_reducible refine Tg.bind ?_ (fun _ => ?_)) | (with_reducible refine Tg.ite ?_ ?_) | (with_reducible refine Tg.cv ?_) | (with_reducible exact Tg.gr) | (with_reducible exact Tg.ai) | (with_reducible exact Tg.pure) | (with_reducible apply tg_fX12_isGrid) | (with_reducible apply tg_fX9_firstUnreadable) | (with_reducible apply tg_fX11_multiply_j96))
theorem tg_fX11_transpose_b63 (c0 : Option Nat) (c1 : Int32) (c2 : Int32) (c4 : Int32) (s63 : Int32) : Tg (fX11_transpose_b63 c0 c1 c2 c4 s63) := by
  unfold fX11_transpose_b63
  repeat (first | (with_reducible refine Tg.bind ?_ (fun _ => ?_)) | (with_reducible refine Tg.ite ?_ ?_) | (with_reducible refine Tg.cv ?_) | (with_reducible exact Tg.pure) | (with_reducible apply tg_fX11_makeColumn))
theorem tg_fX11_transpose (r0 : Option Nat) (p1 : Int32) (p2 : Int32) : Tg (fX11_transpose r0 p1 p2) := by
  unfold fX11_transpose
  repeat (first | (with_reducible refine Tg.bind ?_ (fun _ => ?_)) | (with_reducible refine Tg.ite ?_ ?_) | (with_reducible refine Tg.it (fun _ => ?_) _ _) | (with_reducible refine Tg.cv ?_) | (with_reducible exact Tg.gr) | (with_reducible exact Tg.pure) | (with_reducible apply tg_fX12_isGrid) | (with_reducible apply tg_fX9_gridFault) | (with_reducible apply tg_fX9_longestRow) | (with_reducible apply tg_fX9_startGrid) | (with_reducible apply tg_fX11_transpose_b63) | (with_reducible apply tg_fX9_finishGrid))
theorem tg_fX12_tally (r0 : Option Nat) (p1 : Int32) : Tg (fX12_tally r0 p1) := by
  unfold fX12_tally
  repeat (first | (with_reducible refine Tg.bind ?_ (fun _ => ?_)) | (with_reducible refine Tg.ite ?_ ?_) | (with_reducible exact Tg.gr) | (with_reducible exact Tg.ai) | (with_reducible exact Tg.ti) | (with_reducible exact Tg.pure))
theorem tg_fX5_become (r0 : Option Nat) (p1 : Int32) (p2 : Int64) : Tg (fX5_become r0 p1 p2) := by
  unfold fX5_become
  repeat (first | (with_reducible refine Tg.bind ?_ (fun _ => ?_)) | (with_reducible refine Tg.ite ?_ ?_) | (with_reducible refine Tg.cv ?_) | (with_reducible exact Tg.gr) | (with_reducible exact Tg.ti) | (with_reducible exact Tg.tl) | (with_reducible exact Tg.td) | (with_reducible exact Tg.n64) | (with_reducible exact Tg.n32) | (with_reducible exact Tg.pure) | (with_reducible apply tg_fX5_begin) | (with_reducible apply tg_fX12_narrowed))
theorem tg_fX5_exceeds (r0 : Option Nat) (p1 : Int32) (r2 : Option Nat) (p3 : Int32) : Tg (fX5_exceeds r0 p1 r2 p3) := by
  unfold fX5_exceeds
  repeat (first | (with_reducible refine Tg.bind ?_ (fun _ => ?_)) | (with_reducible refine Tg.ite ?_ ?_) | (with_reducible exact Tg.gr) | (with_reducible exact Tg.ai) | (with_reducible exact Tg.al) | (with_reducible exact Tg.ad) | (with_reducible exact Tg.pure) | (with_reducible apply tg_fX12_isReal))
theorem tg_fX6_markGreater_j175 (l0 : Option Nat) (l1 : Int32) (l6 : Int32) (l8 : Option Nat) (l9 : Int32) (l10 : Int32) : Tg (fX6_markGreater_j175 l0 l1 l6 l8 l9 l10) := by
  unfold fX6_markGreater_j175
  repeat (first | (with_reducible exact Tg.pure))
theorem tg_fX6_markGreater_b134 (c0 : Option Nat) (c1 : Int32) (c6 : Int32) (c8 : Option Nat) (s134 : Int32 × Int32) : Tg (fX6_markGreater_b134 c0 c1 c6 c8 s134) := by
  unfold fX6_markGreater_b134
  repeat (first | (with_reducible refine Tg.bind ?_ (fun _ => ?_)) | (with_reducible refine Tg.ite ?_ ?_) | (with_reducible refine Tg.cv ?_) | (with_reducible exact Tg.gi) | (with_reducible exact Tg.gr) | (with_reducible exact Tg.tl) | (with_reducible exact Tg.pure) | (with_reducible apply tg_fX5_exceeds) | (with_reducible apply tg_fX6_markGreater_j175))
theorem tg_fX6_markGreater (r0 : Option Nat) (p1 : Int32) (p2 : Int32) (p3 : Int32) (p4 : Int64) (p6 : Int32) : Tg (fX6_markGreater r0 p1 p2 p3 p4 p6) := by
  unfold fX6_markGreater
  repeat (first | (with_reducible refine Tg.bind ?_ (fun _ => ?_)) | (with_reducible refine Tg.ite ?_ ?_) | (with_reducible refine Tg.oelim ?_ (fun _ => ?_)) | (with_reducible refine Tg.selim (fun _ => ?_) (fun _ => ?_)) | (with_reducible refine Tg.it (fun _ => ?_) _ _) | (with_reducible refine Tg.cv ?_) | (with_reducible exact Tg.gi) | (with_reducible exact Tg.gr) | (with_reducible exact Tg.pure) | (with_reducible apply tg_fX12_isGrid) | (with_reducible apply tg_fX9_rowAt) | (with_reducible apply tg_fX9_rowFault) | (with_reducible apply tg_fX5_cellsReadAs) | (with_reducible apply tg_fX9_hasPlace) | (with_reducible apply tg_fX5_begin) | (with_reducible apply tg_fX6_append) | (with_reducible apply tg_fX5_become) | (with_reducible apply tg_fX9_freshRow) | (with_reducible apply tg_fX6_markGreater_b134) | (with_reducible apply tg_fX9_place))
theorem tg_fX12_above (r0 : Option Nat) (p1 : Int32) (p2 : Int32) (p3 : Int32) (p4 : Int64) (p6 : Int32) : Tg (fX12_above r0 p1 p2 p3 p4 p6) := by
  unfold fX12_above
  repeat (first | (with_reducible refine Tg.bind ?_ (fun _ => ?_)) | (with_reducible refine Tg.cv ?_) | (with_reducible exact Tg.gr) | (with_reducible exact Tg.pure) | (with_reducible apply tg_fX6_markGreater) | (with_reducible apply tg_fX12_tally))
theorem tg_fX6_increase_j185 (l0 : Option Nat) (l3 : Int32) (l5 : Option Nat) (l6 : Int32) : Tg (fX6_increase_j185 l0 l3 l5 l6) := by
  unfold fX6_increase_j185
  repeat (first | (with_reducible exact Tg.pure))
theorem tg_fX6_increase_b76 (c0 : Option Nat) (c3 : Int32) (c5 : Option Nat) (s76 : Int32) : Tg (fX6_increase_b76 c0 c3 c5 s76) := by
  unfold fX6_increase_b76
  repeat (first | (with_reducible refine Tg.bind ?_ (fun _ => ?_)) | (with_reducible refine Tg.ite ?_ ?_) | (with_reducible refine Tg.cv ?_) | (with_reducible exact Tg.gi) | (with_reducible exact Tg.gr) | (with_reducible exact Tg.al) | (with_reducible exact Tg.ad) | (with_reducible exact Tg.tl) | (with_reducible exact Tg.td) | (with_reducible exact Tg.n64) | (with_reducible exact Tg.n32) | (with_reducible exact Tg.pure) | (with_reducible apply tg_fX12_narrowed) | (with_reducible apply tg_fX6_increase_j185) | (with_reducible apply tg_fX5_floatAt))
theorem tg_fX6_increase_j62 (l0 : Option Nat) (l3 : Int32) (l4 : Int32) (l5 : Option Nat) : Tg (fX6_increase_j62 l0 l3 l4 l5) := by
  unfold fX6_increase_j62
  repeat (first | (with_reducible refine Tg.bind ?_ (fun _ => ?_)) | (with_reducible refine Tg.it (fun _ => ?_) _ _) | (with_reducible refine Tg.cv ?_) | (with_reducible exact Tg.gi) | (with_reducible exact Tg.gr) | (with_reducible exact Tg.pure) | (with_reducible apply tg_fX5_become) | (with_reducible apply tg_fX6_increase_b76))
theorem tg_fX6_increase (r0 : Option Nat) (p1 : Int32) (p2 : Int32) (p3 : Int32) (p4 : Int32) : Tg (fX6_increase r0 p1 p2 p3 p4) := by
  unfold fX6_increase
  repeat (first | (with_reducible refine Tg.bind ?_ (fun _ => ?_)) | (with_reducible refine Tg.ite ?_ ?_) | (with_reducible refine Tg.oelim ?_ (fun _ => ?_)) | (with_reducible refine Tg.selim (fun _ => ?_) (fun _ => ?_)) | (with_reducible refine Tg.cv ?_) | (with_reducible exact Tg.gi) | (with_reducible exact Tg.gr) | (with_reducible exact Tg.pure) | (with_reducible apply tg_fX12_isGrid) | (with_reducible apply tg_fX12_isPlain) | (with_reducible apply tg_fX9_rowAt) | (with_reducible apply tg_fX9_rowFault) | (with_reducible apply tg_fX6_increase_j62))
theorem tg_fX12_add (r0 : Option Nat) (p1 : Int32) (p2 : Int32) (p3 : Int32) (p4 : Int32) : Tg (fX12_add r0 p1 p2 p3 p4) := by
  unfold fX12_add
  repeat (first | (with_reducible refine Tg.bind ?_ (fun _ => ?_)) | (with_reducible refine Tg.cv ?_) | (with_reducible exact Tg.gr) | (with_reducible exact Tg.pure) | (with_reducible apply tg_fX6_increase) | (with_reducible apply tg_fX12_tally))
theorem tg_fX12_isNumber (p0 : Int32) : Tg (fX12_isNumber p0) := by
  unfold fX12_isNumber
  repeat (first | (with_reducible refine Tg.ite ?_ ?_) | (with_reducible exact Tg.pure))
theorem tg_fX5_matches_j90 (l0 : Option Nat) (l1 : Int32) (l2 : Option Nat) (l3 : Int32) (l4 : Int32) (l5 : Int32) : Tg (fX5_matches_j90 l0 l1 l2 l3 l4 l5) := by
  unfold fX5_matches_j90
  repeat (first | (with_reducible refine Tg.bind ?_ (fun _ => ?_)) | (with_reducible refine Tg.ite ?_ ?_) | (with_reducible exact Tg.gr) | (with_reducible exact Tg.al) | (with_reducible exact Tg.pure))
theorem tg_fX5_matches_j48 (l0 : Option Nat) (l1 : Int32) (l2 : Option Nat) (l3 : Int32) : Tg (fX5_matches_j48 l0 l1 l2 l3) := by
  unfold fX5_matches_j48
  repeat (first | (with_reducible refine Tg.bind ?_ (fun _ => ?_)) | (with_reducible refine Tg.ite ?_ ?_) | (with_reducible refine Tg.cv ?_) | (with_reducible exact Tg.pure) | (with_reducible apply tg_fX5_doubleAt))
theorem tg_fX5_matches (r0 : Option Nat) (p1 : Int32) (r2 : Option Nat) (p3 : Int32) : Tg (fX5_matches r0 p1 r2 p3) := by
  unfold fX5_matches
  repeat (first | (with_reducible refine Tg.bind ?_ (fun _ => ?_)) | (with_reducible refine Tg.ite ?_ ?_) | (with_reducible exact Tg.gr) | (with_reducible exact Tg.ai) | (with_reducible exact Tg.al) | (with_reducible exact Tg.pure) | (with_reducible apply tg_fX12_isNumber) | (with_reducible apply tg_fX12_isReal) | (with_reducible apply tg_fX5_matches_j48) | (with_reducible apply tg_fX5_matches_j90))
theorem tg_fX6_countMatches_j117 (l5 : Option Nat) (l6 : Option Nat) (l8 : Int32) (s0 : Int32) (s1 : Bool) : Tg (fX6_countMatches_j117 l5 l6 l8 s0 s1) := by
  unfold fX6_countMatches_j117
  repeat (first | (with_reducible exact Tg.pure))
theorem tg_fX6_countMatches_b76 (c5 : Option Nat) (c6 : Option Nat) (s76 : Int32 × Int32) : Tg (fX6_countMatches_b76 c5 c6 s76) := by
  unfold fX6_countMatches_b76
  repeat (first | (with_reducible refine Tg.bind ?_ (fun _ => ?_)) | (with_reducible refine Tg.ite ?_ ?_) | (with_reducible refine Tg.cv ?_) | (with_reducible exact Tg.gi) | (with_reducible exact Tg.pure) | (with_reducible apply tg_fX5_matches) | (with_reducible apply tg_fX6_countMatches_j117))
theorem tg_fX6_countMatches (r0 : Option Nat) (p1 : Int32) (p2 : Int32) (p3 : Int32) (p4 : Int32) : Tg (fX6_countMatches r0 p1 p2 p3 p4) := by
  unfold fX6_countMatches
  repeat (first | (with_reducible refine Tg.bind ?_ (fun _ => ?_)) | (with_reducible refine Tg.ite ?_ ?_) | (with_reducible refine Tg.oelim ?_ (fun _ => ?_)) | (with_reducible refine Tg.selim (fun _ => ?_) (fun _ => ?_)) | (with_reducible refine Tg.it (fun _ => ?_) _ _) | (with_reducible refine Tg.cv ?_) | (with_reducible exact Tg.gr) | (with_reducible exact Tg.pure) | (with_reducible apply tg_fX12_isGrid) | (with_reducible apply tg_fX9_rowAt) | (with_reducible apply tg_fX9_rowFault) | (with_reducible apply tg_fX6_countMatches_b76))
theorem tg_fX12_alike (r0 : Option Nat) (p1 : Int32) (p2 : Int32) (p3 : Int32) (p4 : Int32) : Tg (fX12_alike r0 p1 p2 p3 p4) := by
  unfold fX12_alike
  repeat (first | (with_reducible refine Tg.bind ?_ (fun _ => ?_)) | (with_reducible refine Tg.cv ?_) | (with_reducible exact Tg.gr) | (with_reducible exact Tg.pure) | (with_reducible apply tg_fX6_countMatches) | (with_reducible apply tg_fX12_tally))
theorem tg_fX12_allows (p0 : Int32) (p1 : Int32) : Tg (fX12_allows p0 p1) := by
  unfold fX12_allows
  repeat (first | (with_reducible refine Tg.bind ?_ (fun _ => ?_)) | (with_reducible refine Tg.ite ?_ ?_) | (with_reducible exact Tg.pure) | (with_reducible apply tg_fX12_takes) | (with_reducible apply tg_fX12_isPlain) | (with_reducible apply tg_fX12_readsAs))
theorem tg_fX12_isImage (p0 : Int32) : Tg (fX12_isImage p0) := by
  unfold fX12_isImage
  repeat (first | (with_reducible refine Tg.ite ?_ ?_) | (with_reducible exact Tg.pure))
theorem tg_fX5_copyFrom (r0 : Option Nat) (r1 : Option Nat) : Tg (fX5_copyFrom r0 r1) := by
  unfold fX5_copyFrom
  repeat (first | (with_reducible refine Tg.bind ?_ (fun _ => ?_)) | (with_reducible exact Tg.gi) | (with_reducible exact Tg.gr) | (with_reducible exact Tg.pi) | (with_reducible exact Tg.ci) | (with_reducible exact Tg.cl) | (with_reducible exact Tg.cd) | (with_reducible exact Tg.pure))
theorem tg_fX9_copyFrom_b38 (c0 : Option Nat) (c1 : Option Nat) (s38 : Int32) : Tg (fX9_copyFrom_b38 c0 c1 s38) := by
  unfold fX9_copyFrom_b38
  repeat (first | (with_reducible refine Tg.bind ?_ (fun _ => ?_)) | (with_reducible refine Tg.ite ?_ ?_) | (with_reducible refine Tg.cv ?_) | (with_reducible exact Tg.gr) | (with_reducible exact Tg.ar) | (with_reducible exact Tg.pure) | (with_reducible apply tg_fX5_copyFrom))
theorem tg_fX9_copyFrom (r0 : Option Nat) (r1 : Option Nat) : Tg (fX9_copyFrom r0 r1) := by
  unfold fX9_copyFrom
  repeat (first | (with_reducible refine Tg.bind ?_ (fun _ => ?_)) | (with_reducible refine Tg.it (fun _ => ?_) _ _) | (with_reducible exact Tg.gr) | (with_reducible exact Tg.ln) | (with_reducible exact Tg.ci) | (with_reducible exact Tg.pure) | (with_reducible apply tg_fX9_copyFrom_b38))
theorem tg_fX9_presentGrids_j24 (l0 : Option Nat) (l2 : Int32) (s0 : Int32) (s1 : Bool) : Tg (fX9_presentGrids_j24 l0 l2 s0 s1) := by
  unfold fX9_presentGrids_j24
  repeat (first | (with_reducible exact Tg.pure))
theorem tg_fX9_presentGrids_b4 (c0 : Option Nat) (s4 : Int32 × Int32) : Tg (fX9_presentGrids_b4 c0 s4) := by
  unfold fX9_presentGrids_b4
  repeat (first | (with_reducible refine Tg.bind ?_ (fun _ => ?_)) | (with_reducible refine Tg.ite ?_ ?_) | (with_reducible exact Tg.gr) | (with_reducible exact Tg.ai) | (with_reducible exact Tg.pure) | (with_reducible apply tg_fX9_presentGrids_j24))
theorem tg_fX9_presentGrids (r0 : Option Nat) : Tg (fX9_presentGrids r0) := by
  unfold fX9_presentGrids
  repeat (first | (with_reducible refine Tg.bind ?_ (fun _ => ?_)) | (with_reducible refine Tg.it (fun _ => ?_) _ _) | (with_reducible exact Tg.pure) | (with_reducible apply tg_fX9_presentGrids_b4))
theorem tg_fX12_back (r0 : Option Nat) (p1 : Int32) : Tg (fX12_back r0 p1) := by
  unfold fX12_back
  repeat (first | (with_reducible refine Tg.bind ?_ (fun _ => ?_)) | (with_reducible refine Tg.ite ?_ ?_) | (with_reducible refine Tg.oelim ?_ (fun _ => ?_)) | (with_reducible refine Tg.selim (fun _ => ?_) (fun _ => ?_)) | (with_reducible refine Tg.cv ?_) | (with_reducible exact Tg.gr) | (with_reducible exact Tg.ar) | (with_reducible exact Tg.pure) | (with_reducible apply tg_fX12_isImage) | (with_reducible apply tg_fX12_tally) | (with_reducible apply tg_fX9_copyFrom) | (with_reducible apply tg_fX9_presentGrids))
theorem tg_fX7_tryBlocks_j162 (l0 : Option Nat) (l1 : Int32) (l2 : Int32) (l3 : Int32) (l4 : Int32) (l5 : Int32) (l6 : Option Nat) (l7 : Int64) (l9 : Int32) : Tg (fX7_tryBlocks_j162 l0 l1 l2 l3 l4 l5 l6 l7 l9) := by
  unfold fX7_tryBlocks_j162
  repeat (first | (with_reducible exact Tg.pure))
theorem tg_fX7_tryBlocks_j133 (l0 : Option Nat) (l1 : Int32) (l2 : Int32) (l3 : Int32) (l4 : Int32) (l5 : Int32) (l6 : Option Nat) (l7 : Int64) (l9 : Int32) : Tg (fX7_tryBlocks_j133 l0 l1 l2 l3 l4 l5 l6 l7 l9) := by
  unfold fX7_tryBlocks_j133
  repeat (first | (with_reducible refine Tg.bind ?_ (fun _ => ?_)) | (with_reducible exact Tg.pi) | (with_reducible exact Tg.pl) | (with_reducible apply tg_fX7_tryBlocks_j162))
theorem tg_fX7_tryBlocks_b77 (c0 : Option Nat) (c1 : Int32) (c2 : Int32) (c3 : Int32) (c4 : Int32) (c5 : Int32) (c6 : Option Nat) (s77 : Int64 × Int32) : Tg (fX7_tryBlocks_b77 c0 c1 c2 c3 c4 c5 c6 s77) := by
  unfold fX7_tryBlocks_b77
  repeat (first | (with_reducible refine Tg.bind ?_ (fun _ => ?_)) | (with_reducible refine Tg.ite ?_ ?_) | (with_reducible exact Tg.gi) | (with_reducible exact Tg.gl) | (with_reducible exact Tg.gr) | (with_reducible exact Tg.al) | (with_reducible exact Tg.tl) | (with_reducible exact Tg.pure) | (with_reducible apply tg_fX7_tryBlocks_j133) | (with_reducible apply tg_fX7_tryBlocks_j162))
theorem tg_fX7_tryBlocks_b15 (c0 : Option Nat) (c1 : Int32) (c2 : Int32) (c3 : Int32) (s15 : Int32 × Int32) : Tg (fX7_tryBlocks_b15 c0 c1 c2 c3 s15) := by
  unfold fX7_tryBlocks_b15
  repeat (first | (with_reducible refine Tg.bind ?_ (fun _ => ?_)) | (with_reducible refine Tg.ite ?_ ?_) | (with_reducible refine Tg.oelim ?_ (fun _ => ?_)) | (with_reducible refine Tg.selim (fun _ => ?_) (fun _ => ?_)) | (with_reducible refine Tg.it (fun _ => ?_) _ _) | (with_reducible refine Tg.cv ?_) | (with_reducible exact Tg.gi) | (with_reducible exact Tg.gr) | (with_reducible exact Tg.ai) | (with_reducible exact Tg.pure) | (with_reducible apply tg_fX9_rowAt) | (with_reducible apply tg_fX12_readsAs) | (with_reducible apply tg_fJ9_min_7cf53) | (with_reducible apply tg_fX7_tryBlocks_b77))
theorem tg_fX7_tryBlocks (r0 : Option Nat) (p1 : Int32) (p2 : Int32) (p3 : Int32) : Tg (fX7_tryBlocks r0 p1 p2 p3) := by
  unfold fX7_tryBlocks
  repeat (first | (with_reducible refine Tg.bind ?_ (fun _ => ?_)) | (with_reducible refine Tg.oelim ?_ (fun _ => ?_)) | (with_reducible refine Tg.selim (fun _ => ?_) (fun _ => ?_)) | (with_reducible refine Tg.it (fun _ => ?_) _ _) | (with_reducible exact Tg.gr) | (with_reducible exact Tg.pure) | (with_reducible apply tg_fJ7_fill_d0a16) | (with_reducible apply tg_fX7_tryBlocks_b15))
theorem tg_fX7_bestBlock_j86 (l0 : Option Nat) : Tg (fX7_bestBlock_j86 l0) := by
  unfold fX7_bestBlock_j86
  repeat (first | (with_reducible refine Tg.bind ?_ (fun _ => ?_)) | (with_reducible exact Tg.gi) | (with_reducible exact Tg.pure))
theorem tg_fX7_bestBlock_b39 (c0 : Option Nat) (c1 : Int32) (c3 : Int32) (s39 : Int32) : Tg (fX7_bestBlock_b39 c0 c1 c3 s39) := by
  unfold fX7_bestBlock_b39
  repeat (first | (with_reducible refine Tg.bind ?_ (fun _ => ?_)) | (with_reducible refine Tg.ite ?_ ?_) | (with_reducible refine Tg.cv ?_) | (with_reducible exact Tg.pure) | (with_reducible apply tg_fX7_tryBlocks))
theorem tg_fX7_bestBlock_b23 (c0 : Option Nat) (c1 : Int32) (s23 : Int32) : Tg (fX7_bestBlock_b23 c0 c1 s23) := by
  unfold fX7_bestBlock_b23
  repeat (first | (with_reducible refine Tg.bind ?_ (fun _ => ?_)) | (with_reducible refine Tg.ite ?_ ?_) | (with_reducible refine Tg.it (fun _ => ?_) _ _) | (with_reducible exact Tg.gr) | (with_reducible exact Tg.ai) | (with_reducible exact Tg.pure) | (with_reducible apply tg_fX7_bestBlock_b39))
theorem tg_fX7_bestBlock (r0 : Option Nat) (p1 : Int32) : Tg (fX7_bestBlock r0 p1) := by
  unfold fX7_bestBlock
  repeat (first | (with_reducible refine Tg.bind ?_ (fun _ => ?_)) | (with_reducible refine Tg.ite ?_ ?_) | (with_reducible refine Tg.it (fun _ => ?_) _ _) | (with_reducible refine Tg.cv ?_) | (with_reducible exact Tg.gi) | (with_reducible exact Tg.gl) | (with_reducible exact Tg.gr) | (with_reducible exact Tg.pi) | (with_reducible exact Tg.pl) | (with_reducible exact Tg.pure) | (with_reducible apply tg_fX9_gridFault) | (with_reducible apply tg_fX7_bestBlock_b23) | (with_reducible apply tg_fX7_bestBlock_j86))
theorem tg_fX12_block (r0 : Option Nat) (p1 : Int32) : Tg (fX12_block r0 p1) := by
  unfold fX12_block
  repeat (first | (with_reducible refine Tg.bind ?_ (fun _ => ?_)) | (with_reducible refine Tg.cv ?_) | (with_reducible exact Tg.gr) | (with_reducible exact Tg.pure) | (with_reducible apply tg_fX7_bestBlock) | (with_reducible apply tg_fX12_tally))
theorem tg_fX3_numberOf (r0 : Option Nat) (p1 : Int32) (p2 : Int32) : Tg (fX3_numberOf r0 p1 p2) := by
  unfold fX3_numberOf
  repeat (first | (with_reducible refine Tg.bind ?_ (fun _ => ?_)) | (with_reducible exact Tg.gr) | (with_reducible exact Tg.ai) | (with_reducible exact Tg.pure))
theorem tg_fX12_isKind (p0 : Int32) : Tg (fX12_isKind p0) := by
  unfold fX12_isKind
  repeat (first | (with_reducible refine Tg.ite ?_ ?_) | (with_reducible exact Tg.pure))
theorem tg_fX6_castRow_b60 (c0 : Option Nat) (c1 : Int32) (c2 : Int32) (c4 : Option Nat) (c5 : Option Nat) (s60 : Int32) : Tg (fX6_castRow_b60 c0 c1 c2 c4 c5 s60) := by
  unfold fX6_castRow_b60
  repeat (first | (with_reducible refine Tg.bind ?_ (fun _ => ?_)) | (with_reducible refine Tg.ite ?_ ?_) | (with_reducible refine Tg.cv ?_) | (with_reducible exact Tg.gi) | (with_reducible exact Tg.gr) | (with_reducible exact Tg.pi) | (with_reducible exact Tg.pure) | (with_reducible apply tg_fX5_accept))
theorem tg_fX6_castRow (r0 : Option Nat) (p1 : Int32) (p2 : Int32) (p3 : Int32) : Tg (fX6_castRow r0 p1 p2 p3) := by
  unfold fX6_castRow
  repeat (first | (with_reducible refine Tg.bind ?_ (fun _ => ?_)) | (with_reducible refine Tg.ite ?_ ?_) | (with_reducible refine Tg.oelim ?_ (fun _ => ?_)) | (with_reducible refine Tg.selim (fun _ => ?_) (fun _ => ?_)) | (with_reducible refine Tg.it (fun _ => ?_) _ _) | (with_reducible refine Tg.cv ?_) | (with_reducible exact Tg.gi) | (with_reducible exact Tg.gr) | (with_reducible exact Tg.pure) | (with_reducible apply tg_fX12_isGrid) | (with_reducible apply tg_fX12_isKind) | (with_reducible apply tg_fX9_rowAt) | (with_reducible apply tg_fX9_rowFault) | (with_reducible apply tg_fX9_freshRow) | (with_reducible apply tg_fX6_castRow_b60) | (with_reducible apply tg_fX9_place))
theorem tg_fX6_cutOut (r0 : Option Nat) (p1 : Int32) (p2 : Int32) (p3 : Int32) (p4 : Int32) (p5 : Int32) : Tg (fX6_cutOut r0 p1 p2 p3 p4 p5) := by
  unfold fX6_cutOut
  repeat (first | (with_reducible refine Tg.bind ?_ (fun _ => ?_)) | (with_reducible refine Tg.ite ?_ ?_) | (with_reducible refine Tg.oelim ?_ (fun _ => ?_)) | (with_reducible refine Tg.selim (fun _ => ?_) (fun _ => ?_)) | (with_reducible refine Tg.cv ?_) | (with_reducible exact Tg.gi) | (with_reducible exact Tg.gr) | (with_reducible exact Tg.pure) | (with_reducible apply tg_fX12_isGrid) | (with_reducible apply tg_fX9_rowAt) | (with_reducible apply tg_fX9_rowFault) | (with_reducible apply tg_fX9_hasPlace) | (with_reducible apply tg_fX9_freshRow) | (with_reducible apply tg_fX6_append) | (with_reducible apply tg_fX9_place))
theorem tg_fX6_joinRows (r0 : Option Nat) (p1 : Int32) (p2 : Int32) (p3 : Int32) : Tg (fX6_joinRows r0 p1 p2 p3) := by
  unfold fX6_joinRows
  repeat (first | (with_reducible refine Tg.bind ?_ (fun _ => ?_)) | (with_reducible refine Tg.ite ?_ ?_) | (with_reducible refine Tg.oelim ?_ (fun _ => ?_)) | (with_reducible refine Tg.selim (fun _ => ?_) (fun _ => ?_)) | (with_reducible refine Tg.cv ?_) | (with_reducible exact Tg.gi) | (with_reducible exact Tg.gr) | (with_reducible exact Tg.pure) | (with_reducible apply tg_fX9_rowAt) | (with_reducible apply tg_fX9_rowFault) | (with_reducible apply tg_fX12_leastKind) | (with_reducible apply tg_fX9_freshRow) | (with_reducible apply tg_fX6_append) | (with_reducible apply tg_fX9_place))
theorem tg_fX6_reverse_b35 (c0 : Option Nat) (c3 : Option Nat) (s35 : Int32) : Tg (fX6_reverse_b35 c0 c3 s35) := by
  unfold fX6_reverse_b35
  repeat (first | (with_reducible refine Tg.bind ?_ (fun _ => ?_)) | (with_reducible refine Tg.ite ?_ ?_) | (with_reducible refine Tg.cv ?_) | (with_reducible exact Tg.gi) | (with_reducible exact Tg.gr) | (with_reducible exact Tg.pure) | (with_reducible apply tg_fX5_accept))
theorem tg_fX6_reverse (r0 : Option Nat) (p1 : Int32) (p2 : Int32) : Tg (fX6_reverse r0 p1 p2) := by
  unfold fX6_reverse
  repeat (first | (with_reducible refine Tg.bind ?_ (fun _ => ?_)) | (with_reducible refine Tg.oelim ?_ (fun _ => ?_)) | (with_reducible refine Tg.selim (fun _ => ?_) (fun _ => ?_)) | (with_reducible refine Tg.it (fun _ => ?_) _ _) | (with_reducible refine Tg.cv ?_) | (with_reducible exact Tg.gi) | (with_reducible exact Tg.gr) | (with_reducible exact Tg.pure) | (with_reducible apply tg_fX9_rowAt) | (with_reducible apply tg_fX9_rowFault) | (with_reducible apply tg_fX5_copyFrom) | (with_reducible apply tg_fX6_reverse_b35))
theorem tg_fX6_rotate (r0 : Option Nat) (p1 : Int32) (p2 : Int32) (p3 : Int32) : Tg (fX6_rotate r0 p1 p2 p3) := by
  unfold fX6_rotate
  repeat (first | (with_reducible refine Tg.bind ?_ (fun _ => ?_)) | (with_reducible refine Tg.ite ?_ ?_) | (with_reducible refine Tg.oelim ?_ (fun _ => ?_)) | (with_reducible refine Tg.selim (fun _ => ?_) (fun _ => ?_)) | (with_reducible refine Tg.cv ?_) | (with_reducible exact Tg.gi) | (with_reducible exact Tg.gr) | (with_reducible exact Tg.pure) | (with_reducible apply tg_fX9_rowAt) | (with_reducible apply tg_fX9_rowFault) | (with_reducible apply tg_fJ9_floorMod_7cf53) | (with_reducible apply tg_fX5_copyFrom) | (with_reducible apply tg_fX6_append))
theorem tg_fX6_insert_j60 (l0 : Option Nat) (l1 : Option Nat) (l3 : Int32) : Tg (fX6_insert_j60 l0 l1 l3) := by
  unfold fX6_insert_j60
  repeat (first | (with_reducible refine Tg.bind ?_ (fun _ => ?_)) | (with_reducible refine Tg.cv ?_) | (with_reducible exact Tg.gr) | (with_reducible exact Tg.pure) | (with_reducible apply tg_fX5_accept))
theorem tg_fX6_insert_b25 (c0 : Option Nat) (c1 : Option Nat) (s25 : Int32) : Tg (fX6_insert_b25 c0 c1 s25) := by
  unfold fX6_insert_b25
  repeat (first | (with_reducible refine Tg.bind ?_ (fun _ => ?_)) | (with_reducible refine Tg.ite ?_ ?_) | (with_reducible refine Tg.cv ?_) | (with_reducible exact Tg.gr) | (with_reducible exact Tg.pure) | (with_reducible apply tg_fX5_exceeds) | (with_reducible apply tg_fX5_accept))
theorem tg_fX6_insert (r0 : Option Nat) (r1 : Option Nat) (p2 : Int32) : Tg (fX6_insert r0 r1 p2) := by
  unfold fX6_insert
  repeat (first | (with_reducible refine Tg.bind ?_ (fun _ => ?_)) | (with_reducible refine Tg.it (fun _ => ?_) _ _) | (with_reducible refine Tg.cv ?_) | (with_reducible exact Tg.gi) | (with_reducible exact Tg.gr) | (with_reducible apply tg_fX5_begin) | (with_reducible apply tg_fX5_accept) | (with_reducible apply tg_fX6_insert_b25) | (with_reducible apply tg_fX6_insert_j60))
theorem tg_fX6_sortRow_b48 (c0 : Option Nat) (c3 : Option Nat) (s48 : Int32) : Tg (fX6_sortRow_b48 c0 c3 s48) := by
  unfold fX6_sortRow_b48
  repeat (first | (with_reducible refine Tg.bind ?_ (fun _ => ?_)) | (with_reducible refine Tg.ite ?_ ?_) | (with_reducible refine Tg.cv ?_) | (with_reducible exact Tg.gi) | (with_reducible exact Tg.pure) | (with_reducible apply tg_fX6_insert))
theorem tg_fX6_sortRow_j107 (l0 : Option Nat) (l3 : Option Nat) (l5 : Int32) (s0 : Int32) (s1 : Bool) : Tg (fX6_sortRow_j107 l0 l3 l5 s0 s1) := by
  unfold fX6_sortRow_j107
  repeat (first | (with_reducible exact Tg.pure))
theorem tg_fX6_sortRow_b76 (c0 : Option Nat) (c3 : Option Nat) (s76 : Int32 × Int32) : Tg (fX6_sortRow_b76 c0 c3 s76) := by
  unfold fX6_sortRow_b76
  repeat (first | (with_reducible refine Tg.bind ?_ (fun _ => ?_)) | (with_reducible refine Tg.ite ?_ ?_) | (with_reducible refine Tg.cv ?_) | (with_reducible exact Tg.gi) | (with_reducible exact Tg.gr) | (with_reducible exact Tg.pure) | (with_reducible apply tg_fX5_matches) | (with_reducible apply tg_fX6_sortRow_j107))
theorem tg_fX6_sortRow (r0 : Option Nat) (p1 : Int32) (p2 : Int32) : Tg (fX6_sortRow r0 p1 p2) := by
  unfold fX6_sortRow
  repeat (first | (with_reducible refine Tg.bind ?_ (fun _ => ?_)) | (with_reducible refine Tg.ite ?_ ?_) | (with_reducible refine Tg.oelim ?_ (fun _ => ?_)) | (with_reducible refine Tg.selim (fun _ => ?_) (fun _ => ?_)) | (with_reducible refine Tg.it (fun _ => ?_) _ _) | (with_reducible refine Tg.cv ?_) | (with_reducible exact Tg.gi) | (with_reducible exact Tg.gr) | (with_reducible exact Tg.pure) | (with_reducible apply tg_fX9_rowAt) | (with_reducible apply tg_fX9_rowFault) | (with_reducible apply tg_fX12_isPlain) | (with_reducible apply tg_fX5_copyFrom) | (with_reducible apply tg_fX6_sortRow_b48) | (with_reducible apply tg_fX6_sortRow_b76))
theorem tg_fX9_contentOf (r0 : Option Nat) (p1 : Int32) (p2 : Int32) : Tg (fX9_contentOf r0 p1 p2) := by
  unfold fX9_contentOf
  repeat (first | (with_reducible refine Tg.bind ?_ (fun _ => ?_)) | (with_reducible refine Tg.ite ?_ ?_) | (with_reducible refine Tg.oelim ?_ (fun _ => ?_)) | (with_reducible refine Tg.selim (fun _ => ?_) (fun _ => ?_)) | (with_reducible refine Tg.cv ?_) | (with_reducible exact Tg.gi) | (with_reducible exact Tg.gr) | (with_reducible exact Tg.ai) | (with_reducible exact Tg.pure) | (with_reducible apply tg_fX9_placeFault) | (with_reducible apply tg_fX9_rowAt))
theorem tg_fX9_pairFault (r0 : Option Nat) (p1 : Int32) (p2 : Int32) (p3 : Int32) (p4 : Int32) : Tg (fX9_pairFault r0 p1 p2 p3 p4) := by
  unfold fX9_pairFault
  repeat (first | (with_reducible refine Tg.bind ?_ (fun _ => ?_)) | (with_reducible refine Tg.ite ?_ ?_) | (with_reducible refine Tg.cv ?_) | (with_reducible exact Tg.pure) | (with_reducible apply tg_fX12_isGrid) | (with_reducible apply tg_fX9_placeFault))
theorem tg_fX9_exchange (r0 : Option Nat) (p1 : Int32) (p2 : Int32) (p3 : Int32) (p4 : Int32) : Tg (fX9_exchange r0 p1 p2 p3 p4) := by
  unfold fX9_exchange
  repeat (first | (with_reducible refine Tg.bind ?_ (fun _ => ?_)) | (with_reducible refine Tg.ite ?_ ?_) | (with_reducible refine Tg.cv ?_) | (with_reducible exact Tg.gr) | (with_reducible exact Tg.ai) | (with_reducible exact Tg.ti) | (with_reducible exact Tg.pure) | (with_reducible apply tg_fX9_pairFault) | (with_reducible apply tg_fX9_contentOf))
theorem tg_fX9_newRow (r0 : Option Nat) (p1 : Int32) (p2 : Int32) (p3 : Int32) (p4 : Int32) : Tg (fX9_newRow r0 p1 p2 p3 p4) := by
  unfold fX9_newRow
  repeat (first | (with_reducible refine Tg.bind ?_ (fun _ => ?_)) | (with_reducible refine Tg.ite ?_ ?_) | (with_reducible refine Tg.cv ?_) | (with_reducible exact Tg.pure) | (with_reducible apply tg_fX12_isGrid) | (with_reducible apply tg_fX12_isKind) | (with_reducible apply tg_fX9_placeFault) | (with_reducible apply tg_fX9_freshRow) | (with_reducible apply tg_fX9_place))
theorem tg_fX9_removeGrid (r0 : Option Nat) (p1 : Int32) : Tg (fX9_removeGrid r0 p1) := by
  unfold fX9_removeGrid
  repeat (first | (with_reducible refine Tg.bind ?_ (fun _ => ?_)) | (with_reducible refine Tg.ite ?_ ?_) | (with_reducible refine Tg.cv ?_) | (with_reducible exact Tg.gr) | (with_reducible exact Tg.ai) | (with_reducible exact Tg.pure) | (with_reducible apply tg_fX9_gridFault) | (with_reducible apply tg_fX9_startGrid) | (with_reducible apply tg_fX9_finishGrid))
theorem tg_fX9_shareContent (r0 : Option Nat) (p1 : Int32) (p2 : Int32) (p3 : Int32) (p4 : Int32) : Tg (fX9_shareContent r0 p1 p2 p3 p4) := by
  unfold fX9_shareContent
  repeat (first | (with_reducible refine Tg.bind ?_ (fun _ => ?_)) | (with_reducible refine Tg.ite ?_ ?_) | (with_reducible refine Tg.cv ?_) | (with_reducible exact Tg.gr) | (with_reducible exact Tg.ai) | (with_reducible exact Tg.ti) | (with_reducible exact Tg.pure) | (with_reducible apply tg_fX9_pairFault) | (with_reducible apply tg_fX9_contentOf))
theorem tg_fX12_cast (r0 : Option Nat) (p1 : Int32) (p2 : Int32) (p3 : Int32) : Tg (fX12_cast r0 p1 p2 p3) := by
  unfold fX12_cast
  repeat (first | (with_reducible refine Tg.bind ?_ (fun _ => ?_)) | (with_reducible refine Tg.cv ?_) | (with_reducible exact Tg.gr) | (with_reducible exact Tg.pure) | (with_reducible apply tg_fX6_castRow) | (with_reducible apply tg_fX12_tally))
theorem tg_fX3_empty (r0 : Option Nat) : Tg (fX3_empty r0) := by
  unfold fX3_empty
  repeat (first | (with_reducible refine Tg.bind ?_ (fun _ => ?_)) | (with_reducible exact Tg.gi) | (with_reducible exact Tg.pi) | (with_reducible exact Tg.pure))
theorem tg_fX12_clear (r0 : Option Nat) : Tg (fX12_clear r0) := by
  unfold fX12_clear
  repeat (first | (with_reducible refine Tg.bind ?_ (fun _ => ?_)) | (with_reducible refine Tg.cv ?_) | (with_reducible exact Tg.gr) | (with_reducible exact Tg.pure) | (with_reducible apply tg_fX3_empty))
theorem tg_fX12_keptImages_j24 (l0 : Option Nat) (l2 : Int32) (s0 : Int32) (s1 : Bool) : Tg (fX12_keptImages_j24 l0 l2 s0 s1) := by
  unfold fX12_keptImages_j24
  repeat (first | (with_reducible exact Tg.pure))
theorem tg_fX12_keptImages_b4 (c0 : Option Nat) (s4 : Int32 × Int32) : Tg (fX12_keptImages_b4 c0 s4) := by
  unfold fX12_keptImages_b4
  repeat (first | (with_reducible refine Tg.bind ?_ (fun _ => ?_)) | (with_reducible refine Tg.ite ?_ ?_) | (with_reducible refine Tg.oelim ?_ (fun _ => ?_)) | (with_reducible refine Tg.selim (fun _ => ?_) (fun _ => ?_)) | (with_reducible exact Tg.gr) | (with_reducible exact Tg.ar) | (with_reducible exact Tg.pure) | (with_reducible apply tg_fX12_keptImages_j24))
theorem tg_fX12_keptImages (r0 : Option Nat) : Tg (fX12_keptImages r0) := by
  unfold fX12_keptImages
  repeat (first | (with_reducible refine Tg.bind ?_ (fun _ => ?_)) | (with_reducible refine Tg.it (fun _ => ?_) _ _) | (with_reducible exact Tg.pure) | (with_reducible apply tg_fX12_keptImages_b4))
theorem tg_fX9_nullsOf_j29 (l0 : Option Nat) (l2 : Int32) (s0 : Int32) (s1 : Bool) : Tg (fX9_nullsOf_j29 l0 l2 s0 s1) := by
  unfold fX9_nullsOf_j29
  repeat (first | (with_reducible exact Tg.pure))
theorem tg_fX9_nullsOf_b4 (c0 : Option Nat) (s4 : Int32 × Int32) : Tg (fX9_nullsOf_b4 c0 s4) := by
  unfold fX9_nullsOf_b4
  repeat (first | (with_reducible refine Tg.bind ?_ (fun _ => ?_)) | (with_reducible refine Tg.ite ?_ ?_) | (with_reducible exact Tg.gi) | (with_reducible exact Tg.gr) | (with_reducible exact Tg.ai) | (with_reducible exact Tg.pure) | (with_reducible apply tg_fX9_nullsOf_j29))
theorem tg_fX9_nullsOf (r0 : Option Nat) : Tg (fX9_nullsOf r0) := by
  unfold fX9_nullsOf
  repeat (first | (with_reducible refine Tg.bind ?_ (fun _ => ?_)) | (with_reducible refine Tg.it (fun _ => ?_) _ _) | (with_reducible exact Tg.pure) | (with_reducible apply tg_fX9_nullsOf_b4))
theorem tg_fX9_amountAt_j36 (l0 : Option Nat) (l1 : Int32) (l2 : Int32) (l3 : Int32) (l4 : Option Nat) (s0 : Bool) : Tg (fX9_amountAt_j36 l0 l1 l2 l3 l4 s0) := by
  unfold fX9_amountAt_j36
  repeat (first | (with_reducible refine Tg.bind ?_ (fun _ => ?_)) | (with_reducible refine Tg.ite ?_ ?_) | (with_reducible refine Tg.oelim ?_ (fun _ => ?_)) | (with_reducible refine Tg.selim (fun _ => ?_) (fun _ => ?_)) | (with_reducible exact Tg.gi) | (with_reducible exact Tg.gr) | (with_reducible exact Tg.ai) | (with_reducible exact Tg.pure) | (with_reducible apply tg_fX9_nullsOf))
theorem tg_fX9_amountAt_j35 (l0 : Option Nat) (l1 : Int32) (l2 : Int32) (l3 : Int32) (l4 : Option Nat) : Tg (fX9_amountAt_j35 l0 l1 l2 l3 l4) := by
  unfold fX9_amountAt_j35
  repeat (first | (with_reducible apply tg_fX9_amountAt_j36))
theorem tg_fX9_amountAt (r0 : Option Nat) (p1 : Int32) (p2 : Int32) (p3 : Int32) : Tg (fX9_amountAt r0 p1 p2 p3) := by
  unfold fX9_amountAt
  repeat (first | (with_reducible refine Tg.bind ?_ (fun _ => ?_)) | (with_reducible refine Tg.ite ?_ ?_) | (with_reducible refine Tg.oelim ?_ (fun _ => ?_)) | (with_reducible refine Tg.selim (fun _ => ?_) (fun _ => ?_)) | (with_reducible refine Tg.cv ?_) | (with_reducible exact Tg.gi) | (with_reducible apply tg_fX9_rowAt) | (with_reducible apply tg_fX9_amountAt_j35) | (with_reducible apply tg_fX9_firstHolder) | (with_reducible apply tg_fX9_amountAt_j36))
theorem tg_fX9_amountOf_b21 (c0 : Option Nat) (c1 : Int32) (c3 : Int32) (s21 : Int32 × Int32) : Tg (fX9_amountOf_b21 c0 c1 c3 s21) := by
  unfold fX9_amountOf_b21
  repeat (first | (with_reducible refine Tg.bind ?_ (fun _ => ?_)) | (with_reducible refine Tg.ite ?_ ?_) | (with_reducible refine Tg.cv ?_) | (with_reducible exact Tg.gr) | (with_reducible exact Tg.ai) | (with_reducible exact Tg.pure) | (with_reducible apply tg_fX9_amountAt))
theorem tg_fX9_amountOf_b13 (c0 : Option Nat) (c1 : Int32) (s13 : Int32 × Int32) : Tg (fX9_amountOf_b13 c0 c1 s13) := by
  unfold fX9_amountOf_b13
  repeat (first | (with_reducible refine Tg.bind ?_ (fun _ => ?_)) | (with_reducible refine Tg.ite ?_ ?_) | (with_reducible refine Tg.it (fun _ => ?_) _ _) | (with_reducible exact Tg.pure) | (with_reducible apply tg_fX9_amountOf_b21))
theorem tg_fX9_amountOf (r0 : Option Nat) (p1 : Int32) : Tg (fX9_amountOf r0 p1) := by
  unfold fX9_amountOf
  repeat (first | (with_reducible refine Tg.bind ?_ (fun _ => ?_)) | (with_reducible refine Tg.ite ?_ ?_) | (with_reducible refine Tg.it (fun _ => ?_) _ _) | (with_reducible refine Tg.cv ?_) | (with_reducible exact Tg.pure) | (with_reducible apply tg_fX9_amountOf_b13) | (with_reducible apply tg_fX9_presentGrids))
theorem tg_fX12_count_j51  : Tg (fX12_count_j51 ) := by
  unfold fX12_count_j51
  repeat (first | (with_reducible exact Tg.pure))
theorem tg_fX12_count (r0 : Option Nat) (p1 : Int32) : Tg (fX12_count r0 p1) := by
  unfold fX12_count
  repeat (first | (with_reducible refine Tg.bind ?_ (fun _ => ?_)) | (with_reducible refine Tg.ite ?_ ?_) | (with_reducible refine Tg.cv ?_) | (with_reducible exact Tg.gi) | (with_reducible exact Tg.gr) | (with_reducible exact Tg.pure) | (with_reducible apply tg_fX12_keptImages) | (with_reducible apply tg_fX12_count_j51) | (with_reducible apply tg_fX9_amountOf))
theorem tg_fX12_cut (r0 : Option Nat) (p1 : Int32) (p2 : Int32) (p3 : Int32) (p4 : Int32) (p5 : Int32) : Tg (fX12_cut r0 p1 p2 p3 p4 p5) := by
  unfold fX12_cut
  repeat (first | (with_reducible refine Tg.bind ?_ (fun _ => ?_)) | (with_reducible refine Tg.cv ?_) | (with_reducible exact Tg.gr) | (with_reducible exact Tg.pure) | (with_reducible apply tg_fX6_cutOut) | (with_reducible apply tg_fX12_tally))
theorem tg_fX12_deal (r0 : Option Nat) (p1 : Int32) (p2 : Int32) (p3 : Int32) (p4 : Int32) : Tg (fX12_deal r0 p1 p2 p3 p4) := by
  unfold fX12_deal
  repeat (first | (with_reducible refine Tg.bind ?_ (fun _ => ?_)) | (with_reducible refine Tg.cv ?_) | (with_reducible exact Tg.gr) | (with_reducible exact Tg.pure) | (with_reducible apply tg_fX11_dealOut) | (with_reducible apply tg_fX12_tally))
theorem tg_fX5_codeAt (r0 : Option Nat) (p1 : Int32) : Tg (fX5_codeAt r0 p1) := by
  unfold fX5_codeAt
  repeat (first | (with_reducible refine Tg.bind ?_ (fun _ => ?_)) | (with_reducible refine Tg.ite ?_ ?_) | (with_reducible exact Tg.gr) | (with_reducible exact Tg.ai) | (with_reducible exact Tg.al) | (with_reducible exact Tg.ad) | (with_reducible exact Tg.pure) | (with_reducible apply tg_fX12_isReal) | (with_reducible apply tg_fX12_codeOfReal))
theorem tg_fX9_checksumOfRow_b51 (c3 : Option Nat) (s51 : Int64 × Int32) : Tg (fX9_checksumOfRow_b51 c3 s51) := by
  unfold fX9_checksumOfRow_b51
  repeat (first | (with_reducible refine Tg.bind ?_ (fun _ => ?_)) | (with_reducible refine Tg.ite ?_ ?_) | (with_reducible refine Tg.cv ?_) | (with_reducible exact Tg.gi) | (with_reducible exact Tg.gr) | (with_reducible exact Tg.ai) | (with_reducible exact Tg.pure) | (with_reducible apply tg_fX5_codeAt))
theorem tg_fX9_checksumOfRow (r0 : Option Nat) (p1 : Int64) (r3 : Option Nat) : Tg (fX9_checksumOfRow r0 p1 r3) := by
  unfold fX9_checksumOfRow
  repeat (first | (with_reducible refine Tg.bind ?_ (fun _ => ?_)) | (with_reducible refine Tg.it (fun _ => ?_) _ _) | (with_reducible refine Tg.cv ?_) | (with_reducible exact Tg.gi) | (with_reducible exact Tg.nz) | (with_reducible exact Tg.pure) | (with_reducible apply tg_fX9_firstHolder) | (with_reducible apply tg_fX9_checksumOfRow_b51))
theorem tg_fX9_checksum_j79 (l0 : Option Nat) (l3 : Int32) (l4 : Int32) (s0 : Int64) : Tg (fX9_checksum_j79 l0 l3 l4 s0) := by
  unfold fX9_checksum_j79
  repeat (first | (with_reducible exact Tg.pure))
theorem tg_fX9_checksum_b28 (c0 : Option Nat) (c3 : Int32) (s28 : Int64 × Int32) : Tg (fX9_checksum_b28 c0 c3 s28) := by
  unfold fX9_checksum_b28
  repeat (first | (with_reducible refine Tg.bind ?_ (fun _ => ?_)) | (with_reducible refine Tg.ite ?_ ?_) | (with_reducible refine Tg.oelim ?_ (fun _ => ?_)) | (with_reducible refine Tg.selim (fun _ => ?_) (fun _ => ?_)) | (with_reducible refine Tg.cv ?_) | (with_reducible exact Tg.gr) | (with_reducible exact Tg.ai) | (with_reducible exact Tg.pure) | (with_reducible apply tg_fX9_contentOf) | (with_reducible apply tg_fX9_rowAt) | (with_reducible apply tg_fX9_checksum_j79) | (with_reducible apply tg_fX9_checksumOfRow))
theorem tg_fX9_checksum_b6 (c0 : Option Nat) (s6 : Int64 × Int32) : Tg (fX9_checksum_b6 c0 s6) := by
  unfold fX9_checksum_b6
  repeat (first | (with_reducible refine Tg.bind ?_ (fun _ => ?_)) | (with_reducible refine Tg.ite ?_ ?_) | (with_reducible refine Tg.it (fun _ => ?_) _ _) | (with_reducible exact Tg.gr) | (with_reducible exact Tg.ai) | (with_reducible exact Tg.pure) | (with_reducible apply tg_fX9_checksum_b28))
theorem tg_fX9_checksum (r0 : Option Nat) : Tg (fX9_checksum r0) := by
  unfold fX9_checksum
  repeat (first | (with_reducible refine Tg.bind ?_ (fun _ => ?_)) | (with_reducible refine Tg.it (fun _ => ?_) _ _) | (with_reducible exact Tg.pure) | (with_reducible apply tg_fX9_checksum_b6))
theorem tg_fX12_digest (r0 : Option Nat) : Tg (fX12_digest r0) := by
  unfold fX12_digest
  repeat (first | (with_reducible refine Tg.bind ?_ (fun _ => ?_)) | (with_reducible refine Tg.cv ?_) | (with_reducible exact Tg.gr) | (with_reducible exact Tg.pure) | (with_reducible apply tg_fX9_checksum))
theorem tg_fX12_dot (r0 : Option Nat) (p1 : Int32) (p2 : Int32) (p3 : Int32) (p4 : Int32) (p5 : Int32) : Tg (fX12_dot r0 p1 p2 p3 p4 p5) := by
  unfold fX12_dot
  repeat (first | (with_reducible refine Tg.bind ?_ (fun _ => ?_)) | (with_reducible refine Tg.cv ?_) | (with_reducible exact Tg.gr) | (with_reducible exact Tg.pure) | (with_reducible apply tg_fX10_sumProducts) | (with_reducible apply tg_fX12_tally))
theorem tg_fX12_drop (r0 : Option Nat) (p1 : Int32) : Tg (fX12_drop r0 p1) := by
  unfold fX12_drop
  repeat (first | (with_reducible refine Tg.bind ?_ (fun _ => ?_)) | (with_reducible refine Tg.cv ?_) | (with_reducible exact Tg.gr) | (with_reducible exact Tg.pure) | (with_reducible apply tg_fX9_removeGrid) | (with_reducible apply tg_fX12_tally))
theorem tg_fX12_isSort (p0 : Int32) : Tg (fX12_isSort p0) := by
  unfold fX12_isSort
  repeat (first | (with_reducible refine Tg.ite ?_ ?_) | (with_reducible exact Tg.pure))
theorem tg_fX6_findValue_b55 (c0 : Option Nat) (c6 : Option Nat) (s55 : Int32) : Tg (fX6_findValue_b55 c0 c6 s55) := by
  unfold fX6_findValue_b55
  repeat (first | (with_reducible refine Tg.bind ?_ (fun _ => ?_)) | (with_reducible refine Tg.ite ?_ ?_) | (with_reducible refine Tg.cv ?_) | (with_reducible exact Tg.gi) | (with_reducible exact Tg.gr) | (with_reducible exact Tg.pure) | (with_reducible apply tg_fX5_matches))
theorem tg_fX6_findValue (r0 : Option Nat) (p1 : Int32) (p2 : Int32) (p3 : Int32) (p4 : Int64) : Tg (fX6_findValue r0 p1 p2 p3 p4) := by
  unfold fX6_findValue
  repeat (first | (with_reducible refine Tg.bind ?_ (fun _ => ?_)) | (with_reducible refine Tg.ite ?_ ?_) | (with_reducible refine Tg.oelim ?_ (fun _ => ?_)) | (with_reducible refine Tg.selim (fun _ => ?_) (fun _ => ?_)) | (with_reducible refine Tg.it (fun _ => ?_) _ _) | (with_reducible refine Tg.cv ?_) | (with_reducible exact Tg.gr) | (with_reducible exact Tg.pure) | (with_reducible apply tg_fX12_isGrid) | (with_reducible apply tg_fX12_isSort) | (with_reducible apply tg_fX9_rowAt) | (with_reducible apply tg_fX9_rowFault) | (with_reducible apply tg_fX5_become) | (with_reducible apply tg_fX6_findValue_b55))
theorem tg_fX12_find (r0 : Option Nat) (p1 : Int32) (p2 : Int32) (p3 : Int32) (p4 : Int64) : Tg (fX12_find r0 p1 p2 p3 p4) := by
  unfold fX12_find
  repeat (first | (with_reducible refine Tg.bind ?_ (fun _ => ?_)) | (with_reducible refine Tg.cv ?_) | (with_reducible exact Tg.gr) | (with_reducible exact Tg.pure) | (with_reducible apply tg_fX6_findValue) | (with_reducible apply tg_fX12_tally))
theorem tg_fX12_first (r0 : Option Nat) : Tg (fX12_first r0) := by
  unfold fX12_first
  repeat (first | (with_reducible refine Tg.bind ?_ (fun _ => ?_)) | (with_reducible exact Tg.gi) | (with_reducible exact Tg.gr) | (with_reducible exact Tg.pure))
theorem tg_fX12_isAct (p0 : Int32) : Tg (fX12_isAct p0) := by
  unfold fX12_isAct
  repeat (first | (with_reducible refine Tg.ite ?_ ?_) | (with_reducible exact Tg.pure))
theorem tg_fX12_fits_j14 (l0 : Option Nat) : Tg (fX12_fits_j14 l0) := by
  unfold fX12_fits_j14
  repeat (first | (with_reducible refine Tg.bind ?_ (fun _ => ?_)) | (with_reducible refine Tg.cv ?_) | (with_reducible exact Tg.pure) | (with_reducible apply tg_fX12_tally))
theorem tg_fX12_fits (r0 : Option Nat) (p1 : Int32) (p2 : Int32) : Tg (fX12_fits r0 p1 p2) := by
  unfold fX12_fits
  repeat (first | (with_reducible refine Tg.bind ?_ (fun _ => ?_)) | (with_reducible refine Tg.ite ?_ ?_) | (with_reducible exact Tg.pure) | (with_reducible apply tg_fX12_isAct) | (with_reducible apply tg_fX12_isKind) | (with_reducible apply tg_fX12_allows) | (with_reducible apply tg_fX12_fits_j14))
theorem tg_fX12_flat (r0 : Option Nat) (p1 : Int32) (p2 : Int32) (p3 : Int32) : Tg (fX12_flat r0 p1 p2 p3) := by
  unfold fX12_flat
  repeat (first | (with_reducible refine Tg.bind ?_ (fun _ => ?_)) | (with_reducible refine Tg.cv ?_) | (with_reducible exact Tg.gr) | (with_reducible exact Tg.pure) | (with_reducible apply tg_fX11_flatten) | (with_reducible apply tg_fX12_tally))
theorem tg_fX12_flip (r0 : Option Nat) (p1 : Int32) (p2 : Int32) : Tg (fX12_flip r0 p1 p2) := by
  unfold fX12_flip
  repeat (first | (with_reducible refine Tg.bind ?_ (fun _ => ?_)) | (with_reducible refine Tg.cv ?_) | (with_reducible exact Tg.gr) | (with_reducible exact Tg.pure) | (with_reducible apply tg_fX6_reverse) | (with_reducible apply tg_fX12_tally))
theorem tg_fX12_fold (r0 : Option Nat) (p1 : Int32) (p2 : Int32) (p3 : Int32) (p4 : Int32) (p5 : Int32) : Tg (fX12_fold r0 p1 p2 p3 p4 p5) := by
  unfold fX12_fold
  repeat (first | (with_reducible refine Tg.bind ?_ (fun _ => ?_)) | (with_reducible refine Tg.cv ?_) | (with_reducible exact Tg.gr) | (with_reducible exact Tg.pure) | (with_reducible apply tg_fX10_foldCells) | (with_reducible apply tg_fX12_tally))
theorem tg_fX1_removeAll (r0 : Option Nat) : Tg (fX1_removeAll r0) := by
  unfold fX1_removeAll
  repeat (first | (with_reducible refine Tg.bind ?_ (fun _ => ?_)) | (with_reducible exact Tg.gi) | (with_reducible exact Tg.pi) | (with_reducible exact Tg.pure))
theorem tg_fX12_forget (r0 : Option Nat) : Tg (fX12_forget r0) := by
  unfold fX12_forget
  repeat (first | (with_reducible refine Tg.bind ?_ (fun _ => ?_)) | (with_reducible refine Tg.cv ?_) | (with_reducible exact Tg.gr) | (with_reducible exact Tg.pure) | (with_reducible apply tg_fX1_removeAll))
theorem tg_fX9_newGrid (r0 : Option Nat) (p1 : Int32) (p2 : Int32) : Tg (fX9_newGrid r0 p1 p2) := by
  unfold fX9_newGrid
  repeat (first | (with_reducible refine Tg.bind ?_ (fun _ => ?_)) | (with_reducible refine Tg.ite ?_ ?_) | (with_reducible refine Tg.cv ?_) | (with_reducible exact Tg.pure) | (with_reducible apply tg_fX12_isGrid) | (with_reducible apply tg_fX9_startGrid) | (with_reducible apply tg_fX9_finishGrid))
theorem tg_fX12_grid (r0 : Option Nat) (p1 : Int32) (p2 : Int32) : Tg (fX12_grid r0 p1 p2) := by
  unfold fX12_grid
  repeat (first | (with_reducible refine Tg.bind ?_ (fun _ => ?_)) | (with_reducible refine Tg.cv ?_) | (with_reducible exact Tg.gr) | (with_reducible exact Tg.pure) | (with_reducible apply tg_fX9_newGrid) | (with_reducible apply tg_fX12_tally))
theorem tg_fX12_holds (r0 : Option Nat) (p1 : Int32) (p2 : Int32) : Tg (fX12_holds r0 p1 p2) := by
  unfold fX12_holds
  repeat (first | (with_reducible refine Tg.bind ?_ (fun _ => ?_)) | (with_reducible refine Tg.cv ?_) | (with_reducible exact Tg.gr) | (with_reducible exact Tg.pure) | (with_reducible apply tg_fX9_contentOf) | (with_reducible apply tg_fX12_tally))
theorem tg_fX5_init (r0 : Option Nat) (p1 : Int32) : Tg (fX5_init r0 p1) := by
  unfold fX5_init
  repeat (first | (with_reducible refine Tg.bind ?_ (fun _ => ?_)) | (with_reducible exact Tg.pi) | (with_reducible exact Tg.pr) | (with_reducible exact Tg.ck) | (with_reducible exact Tg.na) | (with_reducible exact Tg.pure))
theorem tg_fX12_join (r0 : Option Nat) (p1 : Int32) (p2 : Int32) (p3 : Int32) : Tg (fX12_join r0 p1 p2 p3) := by
  unfold fX12_join
  repeat (first | (with_reducible refine Tg.bind ?_ (fun _ => ?_)) | (with_reducible refine Tg.cv ?_) | (with_reducible exact Tg.gr) | (with_reducible exact Tg.pure) | (with_reducible apply tg_fX6_joinRows) | (with_reducible apply tg_fX12_tally))
theorem tg_fX9_rowsOfKind_j39 (l0 : Option Nat) (l1 : Int32) (l3 : Int32) (s0 : Int32) (s1 : Bool) : Tg (fX9_rowsOfKind_j39 l0 l1 l3 s0 s1) := by
  unfold fX9_rowsOfKind_j39
  repeat (first | (with_reducible exact Tg.pure))
theorem tg_fX9_rowsOfKind_j38 (l0 : Option Nat) (l1 : Int32) (l3 : Int32) (s0 : Int32) : Tg (fX9_rowsOfKind_j38 l0 l1 l3 s0) := by
  unfold fX9_rowsOfKind_j38
  repeat (first | (with_reducible apply tg_fX9_rowsOfKind_j39))
theorem tg_fX9_rowsOfKind_b4 (c0 : Option Nat) (c1 : Int32) (s4 : Int32 × Int32) : Tg (fX9_rowsOfKind_b4 c0 c1 s4) := by
  unfold fX9_rowsOfKind_b4
  repeat (first | (with_reducible refine Tg.bind ?_ (fun _ => ?_)) | (with_reducible refine Tg.ite ?_ ?_) | (with_reducible refine Tg.cv ?_) | (with_reducible exact Tg.gi) | (with_reducible exact Tg.gr) | (with_reducible exact Tg.ar) | (with_reducible exact Tg.pure) | (with_reducible apply tg_fX9_rowsOfKind_j38) | (with_reducible apply tg_fX9_firstHolder) | (with_reducible apply tg_fX9_rowsOfKind_j39))
theorem tg_fX9_rowsOfKind (r0 : Option Nat) (p1 : Int32) : Tg (fX9_rowsOfKind r0 p1) := by
  unfold fX9_rowsOfKind
  repeat (first | (with_reducible refine Tg.bind ?_ (fun _ => ?_)) | (with_reducible refine Tg.it (fun _ => ?_) _ _) | (with_reducible exact Tg.pure) | (with_reducible apply tg_fX9_rowsOfKind_b4))
theorem tg_fX12_kinds (r0 : Option Nat) (p1 : Int32) : Tg (fX12_kinds r0 p1) := by
  unfold fX12_kinds
  repeat (first | (with_reducible refine Tg.bind ?_ (fun _ => ?_)) | (with_reducible refine Tg.ite ?_ ?_) | (with_reducible refine Tg.cv ?_) | (with_reducible exact Tg.gr) | (with_reducible exact Tg.pure) | (with_reducible apply tg_fX12_isKind) | (with_reducible apply tg_fX9_rowsOfKind))
theorem tg_fX12_least_j29 (s0 : Option Nat) (s1 : Int32) : Tg (fX12_least_j29 s0 s1) := by
  unfold fX12_least_j29
  repeat (first | (with_reducible refine Tg.bind ?_ (fun _ => ?_)) | (with_reducible refine Tg.cv ?_) | (with_reducible exact Tg.pure) | (with_reducible apply tg_fX12_tally))
theorem tg_fX12_least_j28 (s0 : Option Nat) : Tg (fX12_least_j28 s0) := by
  unfold fX12_least_j28
  repeat (first | (with_reducible apply tg_fX12_least_j29))
theorem tg_fX12_least (r0 : Option Nat) (p1 : Int32) (p2 : Int32) : Tg (fX12_least r0 p1 p2) := by
  unfold fX12_least
  repeat (first | (with_reducible refine Tg.bind ?_ (fun _ => ?_)) | (with_reducible refine Tg.ite ?_ ?_) | (with_reducible apply tg_fX12_isKind) | (with_reducible apply tg_fX12_leastKind) | (with_reducible apply tg_fX12_least_j29) | (with_reducible apply tg_fX12_least_j28))
theorem tg_fX1_isPossible_j35 (l0 : Option Nat) (l1 : Int32) (l2 : Int32) (s0 : Bool) (s1 : Bool) : Tg (fX1_isPossible_j35 l0 l1 l2 s0 s1) := by
  unfold fX1_isPossible_j35
  repeat (first | (with_reducible refine Tg.ite ?_ ?_) | (with_reducible exact Tg.pure))
theorem tg_fX1_isPossible_b2 (c0 : Option Nat) (c1 : Int32) (s2 : Int32) : Tg (fX1_isPossible_b2 c0 c1 s2) := by
  unfold fX1_isPossible_b2
  repeat (first | (with_reducible refine Tg.bind ?_ (fun _ => ?_)) | (with_reducible refine Tg.ite ?_ ?_) | (with_reducible exact Tg.gi) | (with_reducible exact Tg.gr) | (with_reducible exact Tg.ai) | (with_reducible exact Tg.pure) | (with_reducible apply tg_fX12_allows) | (with_reducible apply tg_fX1_isPossible_j35))
theorem tg_fX1_isPossible (r0 : Option Nat) (p1 : Int32) : Tg (fX1_isPossible r0 p1) := by
  unfold fX1_isPossible
  repeat (first | (with_reducible refine Tg.bind ?_ (fun _ => ?_)) | (with_reducible refine Tg.oelim ?_ (fun _ => ?_)) | (with_reducible refine Tg.selim (fun _ => ?_) (fun _ => ?_)) | (with_reducible refine Tg.it (fun _ => ?_) _ _) | (with_reducible exact Tg.pure) | (with_reducible apply tg_fX1_isPossible_b2))
theorem tg_fX1_possibleKinds_j26 (l0 : Option Nat) (l2 : Int32) (s0 : Int32) (s1 : Int32) : Tg (fX1_possibleKinds_j26 l0 l2 s0 s1) := by
  unfold fX1_possibleKinds_j26
  repeat (first | (with_reducible exact Tg.pure))
theorem tg_fX1_possibleKinds_b4 (c0 : Option Nat) (s4 : Int32 × Int32) : Tg (fX1_possibleKinds_b4 c0 s4) := by
  unfold fX1_possibleKinds_b4
  repeat (first | (with_reducible refine Tg.bind ?_ (fun _ => ?_)) | (with_reducible refine Tg.ite ?_ ?_) | (with_reducible refine Tg.cv ?_) | (with_reducible exact Tg.pure) | (with_reducible apply tg_fX1_isPossible) | (with_reducible apply tg_fX1_possibleKinds_j26))
theorem tg_fX1_possibleKinds (r0 : Option Nat) : Tg (fX1_possibleKinds r0) := by
  unfold fX1_possibleKinds
  repeat (first | (with_reducible refine Tg.bind ?_ (fun _ => ?_)) | (with_reducible refine Tg.it (fun _ => ?_) _ _) | (with_reducible exact Tg.pure) | (with_reducible apply tg_fX1_possibleKinds_b4))
theorem tg_fX12_left (r0 : Option Nat) : Tg (fX12_left r0) := by
  unfold fX12_left
  repeat (first | (with_reducible refine Tg.bind ?_ (fun _ => ?_)) | (with_reducible refine Tg.cv ?_) | (with_reducible exact Tg.gr) | (with_reducible exact Tg.pure) | (with_reducible apply tg_fX1_possibleKinds))
theorem tg_fX7_rowOccurs_j51 (l0 : Option Nat) (l1 : Option Nat) (l2 : Int32) (l3 : Int32) : Tg (fX7_rowOccurs_j51 l0 l1 l2 l3) := by
  unfold fX7_rowOccurs_j51
  repeat (first | (with_reducible exact Tg.pure))
theorem tg_fX7_rowOccurs_b2 (c0 : Option Nat) (c1 : Option Nat) (c2 : Int32) (s2 : Int32) : Tg (fX7_rowOccurs_b2 c0 c1 c2 s2) := by
  unfold fX7_rowOccurs_b2
  repeat (first | (with_reducible refine Tg.bind ?_ (fun _ => ?_)) | (with_reducible refine Tg.ite ?_ ?_) | (with_reducible refine Tg.oelim ?_ (fun _ => ?_)) | (with_reducible refine Tg.selim (fun _ => ?_) (fun _ => ?_)) | (with_reducible refine Tg.cv ?_) | (with_reducible exact Tg.gi) | (with_reducible exact Tg.gr) | (with_reducible exact Tg.ai) | (with_reducible exact Tg.pure) | (with_reducible apply tg_fX5_hasCell) | (with_reducible apply tg_fX7_rowOccurs_j51) | (with_reducible apply tg_fX5_matches))
theorem tg_fX7_rowOccurs (r0 : Option Nat) (r1 : Option Nat) (p2 : Int32) : Tg (fX7_rowOccurs r0 r1 p2) := by
  unfold fX7_rowOccurs
  repeat (first | (with_reducible refine Tg.bind ?_ (fun _ => ?_)) | (with_reducible refine Tg.oelim ?_ (fun _ => ?_)) | (with_reducible refine Tg.selim (fun _ => ?_) (fun _ => ?_)) | (with_reducible refine Tg.it (fun _ => ?_) _ _) | (with_reducible exact Tg.pure) | (with_reducible apply tg_fX7_rowOccurs_b2))
theorem tg_fX7_occursAt_j58 (l0 : Option Nat) (l1 : Int32) (l2 : Int32) (l3 : Int32) (l4 : Int32) (l5 : Int32) : Tg (fX7_occursAt_j58 l0 l1 l2 l3 l4 l5) := by
  unfold fX7_occursAt_j58
  repeat (first | (with_reducible exact Tg.pure))
theorem tg_fX7_occursAt_b3 (c0 : Option Nat) (c1 : Int32) (c2 : Int32) (c3 : Int32) (c4 : Int32) (s3 : Int32) : Tg (fX7_occursAt_b3 c0 c1 c2 c3 c4 s3) := by
  unfold fX7_occursAt_b3
  repeat (first | (with_reducible refine Tg.bind ?_ (fun _ => ?_)) | (with_reducible refine Tg.ite ?_ ?_) | (with_reducible refine Tg.oelim ?_ (fun _ => ?_)) | (with_reducible refine Tg.selim (fun _ => ?_) (fun _ => ?_)) | (with_reducible refine Tg.cv ?_) | (with_reducible exact Tg.gr) | (with_reducible exact Tg.ai) | (with_reducible exact Tg.pure) | (with_reducible apply tg_fX9_rowAt) | (with_reducible apply tg_fX7_occursAt_j58) | (with_reducible apply tg_fX7_rowOccurs))
theorem tg_fX7_occursAt (r0 : Option Nat) (p1 : Int32) (p2 : Int32) (p3 : Int32) (p4 : Int32) : Tg (fX7_occursAt r0 p1 p2 p3 p4) := by
  unfold fX7_occursAt
  repeat (first | (with_reducible refine Tg.bind ?_ (fun _ => ?_)) | (with_reducible refine Tg.oelim ?_ (fun _ => ?_)) | (with_reducible refine Tg.selim (fun _ => ?_) (fun _ => ?_)) | (with_reducible refine Tg.it (fun _ => ?_) _ _) | (with_reducible exact Tg.pure) | (with_reducible apply tg_fX7_occursAt_b3))
theorem tg_fX7_findGrid_j128 (l0 : Option Nat) (l1 : Int32) (l2 : Int32) (l3 : Int32) (l4 : Int32) (l5 : Int32) (l6 : Int32) (l7 : Int32) : Tg (fX7_findGrid_j128 l0 l1 l2 l3 l4 l5 l6 l7) := by
  unfold fX7_findGrid_j128
  repeat (first | (with_reducible exact Tg.pure))
theorem tg_fX7_findGrid_j123 (l0 : Option Nat) (l1 : Int32) (l2 : Int32) (l3 : Int32) (l4 : Int32) (l6 : Int32) (l7 : Int32) (s0 : Int32) : Tg (fX7_findGrid_j123 l0 l1 l2 l3 l4 l6 l7 s0) := by
  unfold fX7_findGrid_j123
  repeat (first | (with_reducible apply tg_fX7_findGrid_j128))
theorem tg_fX7_findGrid_b84 (c0 : Option Nat) (c1 : Int32) (c2 : Int32) (c3 : Int32) (c6 : Int32) (s84 : Int32 × Int32 × Int32) : Tg (fX7_findGrid_b84 c0 c1 c2 c3 c6 s84) := by
  unfold fX7_findGrid_b84
  repeat (first | (with_reducible refine Tg.bind ?_ (fun _ => ?_)) | (with_reducible refine Tg.ite ?_ ?_) | (with_reducible refine Tg.cv ?_) | (with_reducible exact Tg.pure) | (with_reducible apply tg_fX7_occursAt) | (with_reducible apply tg_fX7_findGrid_j123) | (with_reducible apply tg_fX7_findGrid_j128))
theorem tg_fX7_findGrid_b57 (c0 : Option Nat) (c1 : Int32) (c2 : Int32) (c3 : Int32) (s57 : Int32 × Int32 × Int32) : Tg (fX7_findGrid_b57 c0 c1 c2 c3 s57) := by
  unfold fX7_findGrid_b57
  repeat (first | (with_reducible refine Tg.bind ?_ (fun _ => ?_)) | (with_reducible refine Tg.ite ?_ ?_) | (with_reducible refine Tg.it (fun _ => ?_) _ _) | (with_reducible exact Tg.gr) | (with_reducible exact Tg.ai) | (with_reducible exact Tg.pure) | (with_reducible apply tg_fX7_findGrid_b84))
theorem tg_fX7_findGrid (r0 : Option Nat) (p1 : Int32) (p2 : Int32) (p3 : Int32) : Tg (fX7_findGrid r0 p1 p2 p3) := by
  unfold fX7_findGrid
  repeat (first | (with_reducible refine Tg.bind ?_ (fun _ => ?_)) | (with_reducible refine Tg.ite ?_ ?_) | (with_reducible refine Tg.it (fun _ => ?_) _ _) | (with_reducible exact Tg.gr) | (with_reducible exact Tg.pl) | (with_reducible exact Tg.ai) | (with_reducible exact Tg.pure) | (with_reducible apply tg_fX12_isGrid) | (with_reducible apply tg_fX7_findGrid_b57))
theorem tg_fX12_lies (r0 : Option Nat) (p1 : Int32) (p2 : Int32) (p3 : Int32) : Tg (fX12_lies r0 p1 p2 p3) := by
  unfold fX12_lies
  repeat (first | (with_reducible refine Tg.bind ?_ (fun _ => ?_)) | (with_reducible refine Tg.cv ?_) | (with_reducible exact Tg.gr) | (with_reducible exact Tg.pure) | (with_reducible apply tg_fX7_findGrid) | (with_reducible apply tg_fX12_tally))
theorem tg_fX1_kindsAllowing_j33 (l0 : Int32) (l1 : Int32) (l3 : Int32) (s0 : Int32) (s1 : Bool) : Tg (fX1_kindsAllowing_j33 l0 l1 l3 s0 s1) := by
  unfold fX1_kindsAllowing_j33
  repeat (first | (with_reducible exact Tg.pure))
theorem tg_fX1_kindsAllowing_j32 (l0 : Int32) (l1 : Int32) (l3 : Int32) (s0 : Int32) : Tg (fX1_kindsAllowing_j32 l0 l1 l3 s0) := by
  unfold fX1_kindsAllowing_j32
  repeat (first | (with_reducible apply tg_fX1_kindsAllowing_j33))
theorem tg_fX1_kindsAllowing_b4 (c0 : Int32) (c1 : Int32) (s4 : Int32 × Int32) : Tg (fX1_kindsAllowing_b4 c0 c1 s4) := by
  unfold fX1_kindsAllowing_b4
  repeat (first | (with_reducible refine Tg.bind ?_ (fun _ => ?_)) | (with_reducible refine Tg.ite ?_ ?_) | (with_reducible exact Tg.pure) | (with_reducible apply tg_fX1_kindsAllowing_j32) | (with_reducible apply tg_fX12_allows) | (with_reducible apply tg_fX1_kindsAllowing_j33))
theorem tg_fX1_kindsAllowing (p0 : Int32) (p1 : Int32) : Tg (fX1_kindsAllowing p0 p1) := by
  unfold fX1_kindsAllowing
  repeat (first | (with_reducible refine Tg.bind ?_ (fun _ => ?_)) | (with_reducible refine Tg.it (fun _ => ?_) _ _) | (with_reducible exact Tg.pure) | (with_reducible apply tg_fX1_kindsAllowing_b4))
theorem tg_fX1_bestAct_j68 (l0 : Option Nat) (l1 : Int32) (l2 : Int32) (l3 : Int32) (l4 : Int32) (l5 : Int32) : Tg (fX1_bestAct_j68 l0 l1 l2 l3 l4 l5) := by
  unfold fX1_bestAct_j68
  repeat (first | (with_reducible exact Tg.pure))
theorem tg_fX1_bestAct_b28 (c0 : Option Nat) (c1 : Int32) (c2 : Int32) (s28 : Int32 × Int32 × Int32) : Tg (fX1_bestAct_b28 c0 c1 c2 s28) := by
  unfold fX1_bestAct_b28
  repeat (first | (with_reducible refine Tg.bind ?_ (fun _ => ?_)) | (with_reducible refine Tg.ite ?_ ?_) | (with_reducible exact Tg.pure) | (with_reducible apply tg_fX1_kindsAllowing) | (with_reducible apply tg_fJ9_max_7cf53) | (with_reducible apply tg_fX1_bestAct_j68))
theorem tg_fX1_bestAct (r0 : Option Nat) : Tg (fX1_bestAct r0) := by
  unfold fX1_bestAct
  repeat (first | (with_reducible refine Tg.bind ?_ (fun _ => ?_)) | (with_reducible refine Tg.ite ?_ ?_) | (with_reducible refine Tg.it (fun _ => ?_) _ _) | (with_reducible refine Tg.cv ?_) | (with_reducible exact Tg.gr) | (with_reducible exact Tg.pl) | (with_reducible exact Tg.pure) | (with_reducible apply tg_fX1_possibleKinds) | (with_reducible apply tg_fJ6_bitCount_0f7a4) | (with_reducible apply tg_fX1_bestAct_b28))
theorem tg_fX12_next (r0 : Option Nat) : Tg (fX12_next r0) := by
  unfold fX12_next
  repeat (first | (with_reducible refine Tg.bind ?_ (fun _ => ?_)) | (with_reducible refine Tg.cv ?_) | (with_reducible exact Tg.gr) | (with_reducible exact Tg.pure) | (with_reducible apply tg_fX1_bestAct))
theorem tg_fX12_order (r0 : Option Nat) (p1 : Int32) (p2 : Int32) : Tg (fX12_order r0 p1 p2) := by
  unfold fX12_order
  repeat (first | (with_reducible refine Tg.bind ?_ (fun _ => ?_)) | (with_reducible refine Tg.cv ?_) | (with_reducible exact Tg.gr) | (with_reducible exact Tg.pure) | (with_reducible apply tg_fX6_sortRow) | (with_reducible apply tg_fX12_tally))
theorem tg_fX4_reach (r0 : Option Nat) (p1 : Int32) (p2 : Int32) : Tg (fX4_reach r0 p1 p2) := by
  unfold fX4_reach
  repeat (first | (with_reducible refine Tg.bind ?_ (fun _ => ?_)) | (with_reducible exact Tg.gi) | (with_reducible exact Tg.gr) | (with_reducible exact Tg.pi) | (with_reducible exact Tg.ti) | (with_reducible exact Tg.pure))
theorem tg_fX4_tryStep (r0 : Option Nat) (p1 : Int32) (p2 : Int32) (p3 : Int32) (p4 : Int32) : Tg (fX4_tryStep r0 p1 p2 p3 p4) := by
  unfold fX4_tryStep
  repeat (first | (with_reducible refine Tg.bind ?_ (fun _ => ?_)) | (with_reducible refine Tg.ite ?_ ?_) | (with_reducible refine Tg.oelim ?_ (fun _ => ?_)) | (with_reducible refine Tg.selim (fun _ => ?_) (fun _ => ?_)) | (with_reducible refine Tg.cv ?_) | (with_reducible exact Tg.gr) | (with_reducible exact Tg.ai) | (with_reducible exact Tg.nz) | (with_reducible exact Tg.pure) | (with_reducible apply tg_fX9_rowAt) | (with_reducible apply tg_fX5_hasCell) | (with_reducible apply tg_fX5_matches) | (with_reducible apply tg_fX4_reach))
theorem tg_fX4_spread_b14 (c0 : Option Nat) (c1 : Int32) (s14 : Int32) : Tg (fX4_spread_b14 c0 c1 s14) := by
  unfold fX4_spread_b14
  repeat (first | (with_reducible refine Tg.bind ?_ (fun _ => ?_)) | (with_reducible refine Tg.ite ?_ ?_) | (with_reducible refine Tg.cv ?_) | (with_reducible exact Tg.gi) | (with_reducible exact Tg.gr) | (with_reducible exact Tg.ln) | (with_reducible exact Tg.ai) | (with_reducible exact Tg.nz) | (with_reducible exact Tg.pure) | (with_reducible apply tg_fX4_tryStep))
theorem tg_fX4_spread (r0 : Option Nat) (p1 : Int32) (p2 : Int32) (p3 : Int32) : Tg (fX4_spread r0 p1 p2 p3) := by
  unfold fX4_spread
  repeat (first | (with_reducible refine Tg.bind ?_ (fun _ => ?_)) | (with_reducible refine Tg.it (fun _ => ?_) _ _) | (with_reducible refine Tg.cv ?_) | (with_reducible exact Tg.pi) | (with_reducible exact Tg.pure) | (with_reducible apply tg_fX4_reach) | (with_reducible apply tg_fX4_spread_b14))
theorem tg_fX4_paintRegion_j151 (l0 : Option Nat) (l1 : Int32) (l9 : Int32) (s0 : Int32) (s1 : Bool) : Tg (fX4_paintRegion_j151 l0 l1 l9 s0 s1) := by
  unfold fX4_paintRegion_j151
  repeat (first | (with_reducible exact Tg.pure))
theorem tg_fX4_paintRegion_j150 (l0 : Option Nat) (l1 : Int32) (l9 : Int32) (s0 : Int32) : Tg (fX4_paintRegion_j150 l0 l1 l9 s0) := by
  unfold fX4_paintRegion_j150
  repeat (first | (with_reducible apply tg_fX4_paintRegion_j151))
theorem tg_fX4_paintRegion_b87 (c0 : Option Nat) (c1 : Int32) (s87 : Int32 × Int32) : Tg (fX4_paintRegion_b87 c0 c1 s87) := by
  unfold fX4_paintRegion_b87
  repeat (first | (with_reducible refine Tg.bind ?_ (fun _ => ?_)) | (with_reducible refine Tg.ite ?_ ?_) | (with_reducible refine Tg.oelim ?_ (fun _ => ?_)) | (with_reducible refine Tg.selim (fun _ => ?_) (fun _ => ?_)) | (with_reducible refine Tg.cv ?_) | (with_reducible exact Tg.gi) | (with_reducible exact Tg.gr) | (with_reducible exact Tg.ai) | (with_reducible exact Tg.nz) | (with_reducible exact Tg.pure) | (with_reducible apply tg_fX9_rowAt) | (with_reducible apply tg_fX4_paintRegion_j150) | (with_reducible apply tg_fX5_accept) | (with_reducible apply tg_fX4_paintRegion_j151))
theorem tg_fX4_paintRegion (r0 : Option Nat) (p1 : Int32) (p2 : Int32) (p3 : Int32) (p4 : Int32) (p5 : Int64) : Tg (fX4_paintRegion r0 p1 p2 p3 p4 p5) := by
  unfold fX4_paintRegion
  repeat (first | (with_reducible refine Tg.bind ?_ (fun _ => ?_)) | (with_reducible refine Tg.ite ?_ ?_) | (with_reducible refine Tg.oelim ?_ (fun _ => ?_)) | (with_reducible refine Tg.selim (fun _ => ?_) (fun _ => ?_)) | (with_reducible refine Tg.it (fun _ => ?_) _ _) | (with_reducible refine Tg.cv ?_) | (with_reducible exact Tg.gr) | (with_reducible exact Tg.pure) | (with_reducible apply tg_fX12_isGrid) | (with_reducible apply tg_fX12_isSort) | (with_reducible apply tg_fX9_rowAt) | (with_reducible apply tg_fX9_rowFault) | (with_reducible apply tg_fX5_hasCell) | (with_reducible apply tg_fJ7_fill_53178) | (with_reducible apply tg_fX4_spread) | (with_reducible apply tg_fX5_become) | (with_reducible apply tg_fX4_paintRegion_b87))
theorem tg_fX12_paint (r0 : Option Nat) (p1 : Int32) (p2 : Int32) (p3 : Int32) (p4 : Int32) (p5 : Int64) : Tg (fX12_paint r0 p1 p2 p3 p4 p5) := by
  unfold fX12_paint
  repeat (first | (with_reducible refine Tg.bind ?_ (fun _ => ?_)) | (with_reducible refine Tg.cv ?_) | (with_reducible exact Tg.gr) | (with_reducible exact Tg.pure) | (with_reducible apply tg_fX4_paintRegion) | (with_reducible apply tg_fX12_tally))
theorem tg_fX12_passed (r0 : Option Nat) : Tg (fX12_passed r0) := by
  unfold fX12_passed
  repeat (first | (with_reducible refine Tg.bind ?_ (fun _ => ?_)) | (with_reducible exact Tg.gi) | (with_reducible exact Tg.gr) | (with_reducible exact Tg.pure))
theorem tg_fX4_regionOf_b64 (c0 : Option Nat) (s64 : Int32 × Int32) : Tg (fX4_regionOf_b64 c0 s64) := by
  unfold fX4_regionOf_b64
  repeat (first | (with_reducible refine Tg.bind ?_ (fun _ => ?_)) | (with_reducible refine Tg.ite ?_ ?_) | (with_reducible exact Tg.gi) | (with_reducible exact Tg.gr) | (with_reducible exact Tg.ai) | (with_reducible exact Tg.pure) | (with_reducible apply tg_fJ9_min_7cf53))
theorem tg_fX4_regionOf (r0 : Option Nat) (p1 : Int32) (p2 : Int32) (p3 : Int32) : Tg (fX4_regionOf r0 p1 p2 p3) := by
  unfold fX4_regionOf
  repeat (first | (with_reducible refine Tg.bind ?_ (fun _ => ?_)) | (with_reducible refine Tg.ite ?_ ?_) | (with_reducible refine Tg.oelim ?_ (fun _ => ?_)) | (with_reducible refine Tg.selim (fun _ => ?_) (fun _ => ?_)) | (with_reducible refine Tg.it (fun _ => ?_) _ _) | (with_reducible refine Tg.cv ?_) | (with_reducible exact Tg.gi) | (with_reducible exact Tg.gr) | (with_reducible exact Tg.pl) | (with_reducible exact Tg.ai) | (with_reducible exact Tg.nz) | (with_reducible exact Tg.pure) | (with_reducible apply tg_fX9_rowAt) | (with_reducible apply tg_fX9_rowFault) | (with_reducible apply tg_fX5_hasCell) | (with_reducible apply tg_fJ7_fill_53178) | (with_reducible apply tg_fX4_spread) | (with_reducible apply tg_fX4_regionOf_b64))
theorem tg_fX12_patch (r0 : Option Nat) (p1 : Int32) (p2 : Int32) (p3 : Int32) : Tg (fX12_patch r0 p1 p2 p3) := by
  unfold fX12_patch
  repeat (first | (with_reducible refine Tg.bind ?_ (fun _ => ?_)) | (with_reducible refine Tg.cv ?_) | (with_reducible exact Tg.gr) | (with_reducible exact Tg.pure) | (with_reducible apply tg_fX4_regionOf) | (with_reducible apply tg_fX12_tally))
theorem tg_fX4_countRegions_j106 (l0 : Option Nat) (l1 : Int32) (l3 : Int32) (l4 : Int32) (l5 : Int32) (l6 : Int32) (l7 : Int32) : Tg (fX4_countRegions_j106 l0 l1 l3 l4 l5 l6 l7) := by
  unfold fX4_countRegions_j106
  repeat (first | (with_reducible exact Tg.pure))
theorem tg_fX4_countRegions_b60 (c0 : Option Nat) (c1 : Int32) (c5 : Int32) (c6 : Int32) (s60 : Int32 × Int32 × Int32) : Tg (fX4_countRegions_b60 c0 c1 c5 c6 s60) := by
  unfold fX4_countRegions_b60
  repeat (first | (with_reducible refine Tg.bind ?_ (fun _ => ?_)) | (with_reducible refine Tg.ite ?_ ?_) | (with_reducible refine Tg.cv ?_) | (with_reducible exact Tg.gi) | (with_reducible exact Tg.gr) | (with_reducible exact Tg.ai) | (with_reducible exact Tg.pure) | (with_reducible apply tg_fX4_countRegions_j106) | (with_reducible apply tg_fX4_spread) | (with_reducible apply tg_fJ9_max_7cf53))
theorem tg_fX4_countRegions_b31 (c0 : Option Nat) (c1 : Int32) (s31 : Int32 × Int32 × Int32) : Tg (fX4_countRegions_b31 c0 c1 s31) := by
  unfold fX4_countRegions_b31
  repeat (first | (with_reducible refine Tg.bind ?_ (fun _ => ?_)) | (with_reducible refine Tg.ite ?_ ?_) | (with_reducible refine Tg.it (fun _ => ?_) _ _) | (with_reducible refine Tg.cv ?_) | (with_reducible exact Tg.gr) | (with_reducible exact Tg.ai) | (with_reducible exact Tg.pure) | (with_reducible apply tg_fX9_cellsAt) | (with_reducible apply tg_fX4_countRegions_b60))
theorem tg_fX4_countRegions (r0 : Option Nat) (p1 : Int32) : Tg (fX4_countRegions r0 p1) := by
  unfold fX4_countRegions
  repeat (first | (with_reducible refine Tg.bind ?_ (fun _ => ?_)) | (with_reducible refine Tg.ite ?_ ?_) | (with_reducible refine Tg.it (fun _ => ?_) _ _) | (with_reducible refine Tg.cv ?_) | (with_reducible exact Tg.gr) | (with_reducible exact Tg.pl) | (with_reducible exact Tg.pure) | (with_reducible apply tg_fX9_gridFault) | (with_reducible apply tg_fJ7_fill_53178) | (with_reducible apply tg_fX4_countRegions_b31))
theorem tg_fX12_patches (r0 : Option Nat) (p1 : Int32) : Tg (fX12_patches r0 p1) := by
  unfold fX12_patches
  repeat (first | (with_reducible refine Tg.bind ?_ (fun _ => ?_)) | (with_reducible refine Tg.cv ?_) | (with_reducible exact Tg.gr) | (with_reducible exact Tg.pure) | (with_reducible apply tg_fX4_countRegions) | (with_reducible apply tg_fX12_tally))
theorem tg_fX6_pickTrue_j198 (l0 : Option Nat) (l1 : Int32) (l2 : Int32) (l6 : Int32) (l7 : Option Nat) : Tg (fX6_pickTrue_j198 l0 l1 l2 l6 l7) := by
  unfold fX6_pickTrue_j198
  repeat (first | (with_reducible refine Tg.bind ?_ (fun _ => ?_)) | (with_reducible refine Tg.cv ?_) | (with_reducible exact Tg.gr) | (with_reducible exact Tg.pure) | (with_reducible apply tg_fX9_place))
theorem tg_fX6_pickTrue_j116 (l0 : Option Nat) (l1 : Int32) (l2 : Int32) (l4 : Option Nat) (l5 : Option Nat) (l7 : Int32) (s0 : Int32) (s1 : Bool) : Tg (fX6_pickTrue_j116 l0 l1 l2 l4 l5 l7 s0 s1) := by
  unfold fX6_pickTrue_j116
  repeat (first | (with_reducible exact Tg.pure))
theorem tg_fX6_pickTrue_b58 (c0 : Option Nat) (c1 : Int32) (c2 : Int32) (c4 : Option Nat) (c5 : Option Nat) (s58 : Int32 × Int32) : Tg (fX6_pickTrue_b58 c0 c1 c2 c4 c5 s58) := by
  unfold fX6_pickTrue_b58
  repeat (first | (with_reducible refine Tg.bind ?_ (fun _ => ?_)) | (with_reducible refine Tg.ite ?_ ?_) | (with_reducible refine Tg.cv ?_) | (with_reducible exact Tg.gi) | (with_reducible exact Tg.gr) | (with_reducible exact Tg.al) | (with_reducible exact Tg.pure) | (with_reducible apply tg_fX5_hasCell) | (with_reducible apply tg_fX12_readsAs) | (with_reducible apply tg_fX6_pickTrue_j116))
theorem tg_fX6_pickTrue_j192 (l0 : Option Nat) (l1 : Int32) (l2 : Int32) (l4 : Option Nat) (l5 : Option Nat) (l6 : Int32) (l7 : Option Nat) (l8 : Int32) (l9 : Int32) : Tg (fX6_pickTrue_j192 l0 l1 l2 l4 l5 l6 l7 l8 l9) := by
  unfold fX6_pickTrue_j192
  repeat (first | (with_reducible exact Tg.pure))
theorem tg_fX6_pickTrue_b147 (c0 : Option Nat) (c1 : Int32) (c2 : Int32) (c4 : Option Nat) (c5 : Option Nat) (c6 : Int32) (c7 : Option Nat) (s147 : Int32 × Int32) : Tg (fX6_pickTrue_b147 c0 c1 c2 c4 c5 c6 c7 s147) := by
  unfold fX6_pickTrue_b147
  repeat (first | (with_reducible refine Tg.bind ?_ (fun _ => ?_)) | (with_reducible refine Tg.ite ?_ ?_) | (with_reducible refine Tg.cv ?_) | (with_reducible exact Tg.gi) | (with_reducible exact Tg.gr) | (with_reducible exact Tg.al) | (with_reducible exact Tg.pure) | (with_reducible apply tg_fX6_pickTrue_j192) | (with_reducible apply tg_fX5_accept))
theorem tg_fX6_pickTrue (r0 : Option Nat) (p1 : Int32) (p2 : Int32) (p3 : Int32) : Tg (fX6_pickTrue r0 p1 p2 p3) := by
  unfold fX6_pickTrue
  repeat (first | (with_reducible refine Tg.bind ?_ (fun _ => ?_)) | (with_reducible refine Tg.oelim ?_ (fun _ => ?_)) | (with_reducible refine Tg.selim (fun _ => ?_) (fun _ => ?_)) | (with_reducible refine Tg.it (fun _ => ?_) _ _) | (with_reducible refine Tg.cv ?_) | (with_reducible exact Tg.gi) | (with_reducible exact Tg.gr) | (with_reducible exact Tg.pure) | (with_reducible apply tg_fX9_rowAt) | (with_reducible apply tg_fX9_rowFault) | (with_reducible apply tg_fX6_pickTrue_b58) | (with_reducible apply tg_fX9_freshRow) | (with_reducible apply tg_fX6_pickTrue_b147) | (with_reducible apply tg_fX6_pickTrue_j198))
theorem tg_fX12_pick (r0 : Option Nat) (p1 : Int32) (p2 : Int32) (p3 : Int32) : Tg (fX12_pick r0 p1 p2 p3) := by
  unfold fX12_pick
  repeat (first | (with_reducible refine Tg.bind ?_ (fun _ => ?_)) | (with_reducible refine Tg.cv ?_) | (with_reducible exact Tg.gr) | (with_reducible exact Tg.pure) | (with_reducible apply tg_fX6_pickTrue) | (with_reducible apply tg_fX12_tally))
theorem tg_fX3_endOfRun_b3 (c0 : Option Nat) (c2 : Int32) (c3 : Int32) (s3 : Int32) : Tg (fX3_endOfRun_b3 c0 c2 c3 s3) := by
  unfold fX3_endOfRun_b3
  repeat (first | (with_reducible refine Tg.bind ?_ (fun _ => ?_)) | (with_reducible refine Tg.ite ?_ ?_) | (with_reducible exact Tg.gi) | (with_reducible exact Tg.gr) | (with_reducible exact Tg.ai) | (with_reducible exact Tg.pure))
theorem tg_fX3_endOfRun (r0 : Option Nat) (p1 : Int32) (p2 : Int32) (p3 : Int32) : Tg (fX3_endOfRun r0 p1 p2 p3) := by
  unfold fX3_endOfRun
  repeat (first | (with_reducible refine Tg.bind ?_ (fun _ => ?_)) | (with_reducible refine Tg.it (fun _ => ?_) _ _) | (with_reducible exact Tg.pure) | (with_reducible apply tg_fX3_endOfRun_b3))
theorem tg_fX3_endOfDigits (r0 : Option Nat) (p1 : Int32) : Tg (fX3_endOfDigits r0 p1) := by
  unfold fX3_endOfDigits
  repeat (first | (with_reducible refine Tg.bind ?_ (fun _ => ?_)) | (with_reducible refine Tg.cv ?_) | (with_reducible exact Tg.pure) | (with_reducible apply tg_fX3_endOfRun))
theorem tg_fX3_endOfLetters (r0 : Option Nat) (p1 : Int32) : Tg (fX3_endOfLetters r0 p1) := by
  unfold fX3_endOfLetters
  repeat (first | (with_reducible refine Tg.bind ?_ (fun _ => ?_)) | (with_reducible refine Tg.cv ?_) | (with_reducible exact Tg.pure) | (with_reducible apply tg_fX3_endOfRun))
theorem tg_fX3_endOfSpaces (r0 : Option Nat) (p1 : Int32) : Tg (fX3_endOfSpaces r0 p1) := by
  unfold fX3_endOfSpaces
  repeat (first | (with_reducible refine Tg.bind ?_ (fun _ => ?_)) | (with_reducible refine Tg.cv ?_) | (with_reducible exact Tg.pure) | (with_reducible apply tg_fX3_endOfRun))
theorem tg_fX3_numberIn_b5 (c0 : Option Nat) (c2 : Int32) (s5 : Int32 × Int32) : Tg (fX3_numberIn_b5 c0 c2 s5) := by
  unfold fX3_numberIn_b5
  repeat (first | (with_reducible refine Tg.bind ?_ (fun _ => ?_)) | (with_reducible refine Tg.ite ?_ ?_) | (with_reducible exact Tg.gr) | (with_reducible exact Tg.ai) | (with_reducible exact Tg.pure))
theorem tg_fX3_numberIn (r0 : Option Nat) (p1 : Int32) (p2 : Int32) : Tg (fX3_numberIn r0 p1 p2) := by
  unfold fX3_numberIn
  repeat (first | (with_reducible refine Tg.bind ?_ (fun _ => ?_)) | (with_reducible refine Tg.it (fun _ => ?_) _ _) | (with_reducible exact Tg.pure) | (with_reducible apply tg_fX3_numberIn_b5))
theorem tg_fX6_pourInto_j146 (l0 : Option Nat) (l5 : Option Nat) (l6 : Option Nat) (l7 : Int32) (l8 : Int32) : Tg (fX6_pourInto_j146 l0 l5 l6 l7 l8) := by
  unfold fX6_pourInto_j146
  repeat (first | (with_reducible exact Tg.pure))
theorem tg_fX6_pourInto_b85 (c0 : Option Nat) (c5 : Option Nat) (c6 : Option Nat) (s85 : Int32 × Int32) : Tg (fX6_pourInto_b85 c0 c5 c6 s85) := by
  unfold fX6_pourInto_b85
  repeat (first | (with_reducible refine Tg.bind ?_ (fun _ => ?_)) | (with_reducible refine Tg.ite ?_ ?_) | (with_reducible refine Tg.cv ?_) | (with_reducible exact Tg.gi) | (with_reducible exact Tg.gr) | (with_reducible exact Tg.pi) | (with_reducible exact Tg.pure) | (with_reducible apply tg_fX5_accept) | (with_reducible apply tg_fX6_pourInto_j146))
theorem tg_fX6_pourInto (r0 : Option Nat) (p1 : Int32) (p2 : Int32) (p3 : Int32) (p4 : Int32) : Tg (fX6_pourInto r0 p1 p2 p3 p4) := by
  unfold fX6_pourInto
  repeat (first | (with_reducible refine Tg.bind ?_ (fun _ => ?_)) | (with_reducible refine Tg.ite ?_ ?_) | (with_reducible refine Tg.oelim ?_ (fun _ => ?_)) | (with_reducible refine Tg.selim (fun _ => ?_) (fun _ => ?_)) | (with_reducible refine Tg.it (fun _ => ?_) _ _) | (with_reducible refine Tg.cv ?_) | (with_reducible exact Tg.gr) | (with_reducible exact Tg.pi) | (with_reducible exact Tg.pure) | (with_reducible apply tg_fX12_isGrid) | (with_reducible apply tg_fX9_rowAt) | (with_reducible apply tg_fX9_rowFault) | (with_reducible apply tg_fX6_pourInto_b85))
theorem tg_fX12_pour (r0 : Option Nat) (p1 : Int32) (p2 : Int32) (p3 : Int32) (p4 : Int32) : Tg (fX12_pour r0 p1 p2 p3 p4) := by
  unfold fX12_pour
  repeat (first | (with_reducible refine Tg.bind ?_ (fun _ => ?_)) | (with_reducible refine Tg.cv ?_) | (with_reducible exact Tg.gr) | (with_reducible exact Tg.pure) | (with_reducible apply tg_fX6_pourInto) | (with_reducible apply tg_fX12_tally))
theorem tg_fX6_putCell (r0 : Option Nat) (p1 : Int32) (p2 : Int32) (p3 : Int32) (p4 : Int32) (p5 : Int64) : Tg (fX6_putCell r0 p1 p2 p3 p4 p5) := by
  unfold fX6_putCell
  repeat (first | (with_reducible refine Tg.bind ?_ (fun _ => ?_)) | (with_reducible refine Tg.ite ?_ ?_) | (with_reducible refine Tg.oelim ?_ (fun _ => ?_)) | (with_reducible refine Tg.selim (fun _ => ?_) (fun _ => ?_)) | (with_reducible refine Tg.cv ?_) | (with_reducible exact Tg.gr) | (with_reducible exact Tg.pure) | (with_reducible apply tg_fX12_isGrid) | (with_reducible apply tg_fX12_isSort) | (with_reducible apply tg_fX9_rowAt) | (with_reducible apply tg_fX9_rowFault) | (with_reducible apply tg_fX5_hasCell) | (with_reducible apply tg_fX5_become) | (with_reducible apply tg_fX5_accept))
theorem tg_fX12_put (r0 : Option Nat) (p1 : Int32) (p2 : Int32) (p3 : Int32) (p4 : Int32) (p5 : Int64) : Tg (fX12_put r0 p1 p2 p3 p4 p5) := by
  unfold fX12_put
  repeat (first | (with_reducible refine Tg.bind ?_ (fun _ => ?_)) | (with_reducible refine Tg.cv ?_) | (with_reducible exact Tg.gr) | (with_reducible exact Tg.pure) | (with_reducible apply tg_fX6_putCell) | (with_reducible apply tg_fX12_tally))
theorem tg_fX6_readCell_j82 (l0 : Option Nat) (l3 : Int32) (l4 : Int32) (l5 : Option Nat) : Tg (fX6_readCell_j82 l0 l3 l4 l5) := by
  unfold fX6_readCell_j82
  repeat (first | (with_reducible refine Tg.bind ?_ (fun _ => ?_)) | (with_reducible refine Tg.cv ?_) | (with_reducible exact Tg.gr) | (with_reducible exact Tg.pl) | (with_reducible exact Tg.ai) | (with_reducible exact Tg.pure) | (with_reducible apply tg_fX5_begin) | (with_reducible apply tg_fX5_accept) | (with_reducible apply tg_fX5_codeAt))
theorem tg_fX6_readCell (r0 : Option Nat) (p1 : Int32) (p2 : Int32) (p3 : Int32) (p4 : Int32) : Tg (fX6_readCell r0 p1 p2 p3 p4) := by
  unfold fX6_readCell
  repeat (first | (with_reducible refine Tg.bind ?_ (fun _ => ?_)) | (with_reducible refine Tg.ite ?_ ?_) | (with_reducible refine Tg.oelim ?_ (fun _ => ?_)) | (with_reducible refine Tg.selim (fun _ => ?_) (fun _ => ?_)) | (with_reducible refine Tg.cv ?_) | (with_reducible exact Tg.gi) | (with_reducible exact Tg.gr) | (with_reducible exact Tg.pure) | (with_reducible apply tg_fX12_isGrid) | (with_reducible apply tg_fX9_rowAt) | (with_reducible apply tg_fX9_rowFault) | (with_reducible apply tg_fX5_hasCell) | (with_reducible apply tg_fX6_readCell_j82) | (with_reducible apply tg_fX12_readsAs))
theorem tg_fX12_read (r0 : Option Nat) (p1 : Int32) (p2 : Int32) (p3 : Int32) (p4 : Int32) : Tg (fX12_read r0 p1 p2 p3 p4) := by
  unfold fX12_read
  repeat (first | (with_reducible refine Tg.bind ?_ (fun _ => ?_)) | (with_reducible refine Tg.cv ?_) | (with_reducible exact Tg.gr) | (with_reducible exact Tg.pure) | (with_reducible apply tg_fX6_readCell) | (with_reducible apply tg_fX12_tally))
theorem tg_fX12_refusals (r0 : Option Nat) (p1 : Int32) : Tg (fX12_refusals r0 p1) := by
  unfold fX12_refusals
  repeat (first | (with_reducible refine Tg.bind ?_ (fun _ => ?_)) | (with_reducible refine Tg.ite ?_ ?_) | (with_reducible exact Tg.gr) | (with_reducible exact Tg.ai) | (with_reducible exact Tg.pure))
theorem tg_fX12_roll (r0 : Option Nat) (p1 : Int32) (p2 : Int32) (p3 : Int32) : Tg (fX12_roll r0 p1 p2 p3) := by
  unfold fX12_roll
  repeat (first | (with_reducible refine Tg.bind ?_ (fun _ => ?_)) | (with_reducible refine Tg.cv ?_) | (with_reducible exact Tg.gr) | (with_reducible exact Tg.pure) | (with_reducible apply tg_fX6_rotate) | (with_reducible apply tg_fX12_tally))
theorem tg_fX12_row (r0 : Option Nat) (p1 : Int32) (p2 : Int32) (p3 : Int32) (p4 : Int32) : Tg (fX12_row r0 p1 p2 p3 p4) := by
  unfold fX12_row
  repeat (first | (with_reducible refine Tg.bind ?_ (fun _ => ?_)) | (with_reducible refine Tg.cv ?_) | (with_reducible exact Tg.gr) | (with_reducible exact Tg.pure) | (with_reducible apply tg_fX9_newRow) | (with_reducible apply tg_fX12_tally))
theorem tg_fX9_holdSameRow (r0 : Option Nat) (p1 : Int32) (p2 : Int32) (p3 : Int32) (p4 : Int32) : Tg (fX9_holdSameRow r0 p1 p2 p3 p4) := by
  unfold fX9_holdSameRow
  repeat (first | (with_reducible refine Tg.bind ?_ (fun _ => ?_)) | (with_reducible refine Tg.ite ?_ ?_) | (with_reducible refine Tg.oelim ?_ (fun _ => ?_)) | (with_reducible refine Tg.selim (fun _ => ?_) (fun _ => ?_)) | (with_reducible refine Tg.cv ?_) | (with_reducible exact Tg.gi) | (with_reducible exact Tg.pure) | (with_reducible apply tg_fX12_isGrid) | (with_reducible apply tg_fX9_rowAt) | (with_reducible apply tg_fX9_rowFault))
theorem tg_fX12_same (r0 : Option Nat) (p1 : Int32) (p2 : Int32) (p3 : Int32) (p4 : Int32) : Tg (fX12_same r0 p1 p2 p3 p4) := by
  unfold fX12_same
  repeat (first | (with_reducible refine Tg.bind ?_ (fun _ => ?_)) | (with_reducible refine Tg.cv ?_) | (with_reducible exact Tg.gr) | (with_reducible exact Tg.pure) | (with_reducible apply tg_fX9_holdSameRow) | (with_reducible apply tg_fX12_tally))
theorem tg_fX1_observe (r0 : Option Nat) (p1 : Int32) (p2 : Int32) : Tg (fX1_observe r0 p1 p2) := by
  unfold fX1_observe
  repeat (first | (with_reducible refine Tg.bind ?_ (fun _ => ?_)) | (with_reducible refine Tg.ite ?_ ?_) | (with_reducible exact Tg.gi) | (with_reducible exact Tg.gr) | (with_reducible exact Tg.pi) | (with_reducible exact Tg.ti) | (with_reducible exact Tg.pure) | (with_reducible apply tg_fX12_isAct))
theorem tg_fX12_sees (r0 : Option Nat) (p1 : Int32) (p2 : Int32) : Tg (fX12_sees r0 p1 p2) := by
  unfold fX12_sees
  repeat (first | (with_reducible refine Tg.bind ?_ (fun _ => ?_)) | (with_reducible refine Tg.cv ?_) | (with_reducible exact Tg.gr) | (with_reducible exact Tg.pure) | (with_reducible apply tg_fX1_observe) | (with_reducible apply tg_fX12_tally))
theorem tg_fX12_share (r0 : Option Nat) (p1 : Int32) (p2 : Int32) (p3 : Int32) (p4 : Int32) : Tg (fX12_share r0 p1 p2 p3 p4) := by
  unfold fX12_share
  repeat (first | (with_reducible refine Tg.bind ?_ (fun _ => ?_)) | (with_reducible refine Tg.cv ?_) | (with_reducible exact Tg.gr) | (with_reducible exact Tg.pure) | (with_reducible apply tg_fX9_shareContent) | (with_reducible apply tg_fX12_tally))
theorem tg_fX9_lengthOf (r0 : Option Nat) (p1 : Int32) (p2 : Int32) : Tg (fX9_lengthOf r0 p1 p2) := by
  unfold fX9_lengthOf
  repeat (first | (with_reducible refine Tg.bind ?_ (fun _ => ?_)) | (with_reducible refine Tg.oelim ?_ (fun _ => ?_)) | (with_reducible refine Tg.selim (fun _ => ?_) (fun _ => ?_)) | (with_reducible refine Tg.cv ?_) | (with_reducible exact Tg.gi) | (with_reducible exact Tg.pure) | (with_reducible apply tg_fX9_rowAt) | (with_reducible apply tg_fX9_rowFault))
theorem tg_fX12_size (r0 : Option Nat) (p1 : Int32) (p2 : Int32) : Tg (fX12_size r0 p1 p2) := by
  unfold fX12_size
  repeat (first | (with_reducible refine Tg.bind ?_ (fun _ => ?_)) | (with_reducible refine Tg.cv ?_) | (with_reducible exact Tg.gr) | (with_reducible exact Tg.pure) | (with_reducible apply tg_fX9_lengthOf) | (with_reducible apply tg_fX12_tally))
theorem tg_fX12_swap (r0 : Option Nat) (p1 : Int32) (p2 : Int32) (p3 : Int32) (p4 : Int32) : Tg (fX12_swap r0 p1 p2 p3 p4) := by
  unfold fX12_swap
  repeat (first | (with_reducible refine Tg.bind ?_ (fun _ => ?_)) | (with_reducible refine Tg.cv ?_) | (with_reducible exact Tg.gr) | (with_reducible exact Tg.pure) | (with_reducible apply tg_fX9_exchange) | (with_reducible apply tg_fX12_tally))
theorem tg_fX9_setThing_j65 (s0 : Option Nat) (s1 : Int32) (s2 : Int32) : Tg (fX9_setThing_j65 s0 s1 s2) := by
  unfold fX9_setThing_j65
  repeat (first | (with_reducible refine Tg.bind ?_ (fun _ => ?_)) | (with_reducible exact Tg.ti) | (with_reducible exact Tg.pure))
theorem tg_fX9_setThing (r0 : Option Nat) (p1 : Int32) (p2 : Int32) (p3 : Int32) : Tg (fX9_setThing r0 p1 p2 p3) := by
  unfold fX9_setThing
  repeat (first | (with_reducible refine Tg.bind ?_ (fun _ => ?_)) | (with_reducible refine Tg.ite ?_ ?_) | (with_reducible refine Tg.cv ?_) | (with_reducible exact Tg.gr) | (with_reducible exact Tg.pure) | (with_reducible apply tg_fX12_isGrid) | (with_reducible apply tg_fX9_placeFault) | (with_reducible apply tg_fX9_setThing_j65))
theorem tg_fX12_thing (r0 : Option Nat) (p1 : Int32) (p2 : Int32) (p3 : Int32) : Tg (fX12_thing r0 p1 p2 p3) := by
  unfold fX12_thing
  repeat (first | (with_reducible refine Tg.bind ?_ (fun _ => ?_)) | (with_reducible refine Tg.cv ?_) | (with_reducible exact Tg.gr) | (with_reducible exact Tg.pure) | (with_reducible apply tg_fX9_setThing) | (with_reducible apply tg_fX12_tally))
theorem tg_fX12_times (r0 : Option Nat) (p1 : Int32) (p2 : Int32) (p3 : Int32) : Tg (fX12_times r0 p1 p2 p3) := by
  unfold fX12_times
  repeat (first | (with_reducible refine Tg.bind ?_ (fun _ => ?_)) | (with_reducible refine Tg.cv ?_) | (with_reducible exact Tg.gr) | (with_reducible exact Tg.pure) | (with_reducible apply tg_fX11_multiply) | (with_reducible apply tg_fX12_tally))
theorem tg_fX12_told (r0 : Option Nat) : Tg (fX12_told r0) := by
  unfold fX12_told
  repeat (first | (with_reducible refine Tg.bind ?_ (fun _ => ?_)) | (with_reducible exact Tg.gl) | (with_reducible exact Tg.gr) | (with_reducible exact Tg.pure))
theorem tg_fX7_bestNear_b13 (c0 : Option Nat) (c1 : Int32) (c2 : Int32) (s13 : Int64 × Int32) : Tg (fX7_bestNear_b13 c0 c1 c2 s13) := by
  unfold fX7_bestNear_b13
  repeat (first | (with_reducible refine Tg.bind ?_ (fun _ => ?_)) | (with_reducible refine Tg.ite ?_ ?_) | (with_reducible exact Tg.gr) | (with_reducible exact Tg.al) | (with_reducible exact Tg.pure) | (with_reducible apply tg_fJ9_max_f86c9))
theorem tg_fX7_bestNear (r0 : Option Nat) (p1 : Int32) (p2 : Int32) : Tg (fX7_bestNear r0 p1 p2) := by
  unfold fX7_bestNear
  repeat (first | (with_reducible refine Tg.bind ?_ (fun _ => ?_)) | (with_reducible refine Tg.it (fun _ => ?_) _ _) | (with_reducible exact Tg.pure) | (with_reducible apply tg_fJ9_max_7cf53) | (with_reducible apply tg_fX7_bestNear_b13))
theorem tg_fX7_extendPaths_j75 (l0 : Option Nat) (l1 : Option Nat) (l2 : Bool) (l3 : Int32) (l4 : Int32) (s0 : Option Nat) (s1 : Int32) (s2 : Int64) : Tg (fX7_extendPaths_j75 l0 l1 l2 l3 l4 s0 s1 s2) := by
  unfold fX7_extendPaths_j75
  repeat (first | (with_reducible refine Tg.bind ?_ (fun _ => ?_)) | (with_reducible exact Tg.tl) | (with_reducible exact Tg.pure))
theorem tg_fX7_extendPaths_j42 (l0 : Option Nat) (l1 : Option Nat) (l2 : Bool) (l3 : Int32) (l4 : Int32) (s0 : Int64) : Tg (fX7_extendPaths_j42 l0 l1 l2 l3 l4 s0) := by
  unfold fX7_extendPaths_j42
  repeat (first | (with_reducible refine Tg.bind ?_ (fun _ => ?_)) | (with_reducible refine Tg.ite ?_ ?_) | (with_reducible exact Tg.gr) | (with_reducible exact Tg.al) | (with_reducible apply tg_fX7_extendPaths_j75))
theorem tg_fX7_extendPaths_b18 (c0 : Option Nat) (c1 : Option Nat) (c2 : Bool) (c3 : Int32) (s18 : Int32) : Tg (fX7_extendPaths_b18 c0 c1 c2 c3 s18) := by
  unfold fX7_extendPaths_b18
  repeat (first | (with_reducible refine Tg.bind ?_ (fun _ => ?_)) | (with_reducible refine Tg.ite ?_ ?_) | (with_reducible refine Tg.cv ?_) | (with_reducible exact Tg.gi) | (with_reducible exact Tg.pure) | (with_reducible apply tg_fX7_bestNear) | (with_reducible apply tg_fX7_extendPaths_j42))
theorem tg_fX7_extendPaths (r0 : Option Nat) (r1 : Option Nat) (p2 : Bool) (p3 : Int32) : Tg (fX7_extendPaths r0 r1 p2 p3) := by
  unfold fX7_extendPaths
  repeat (first | (with_reducible refine Tg.bind ?_ (fun _ => ?_)) | (with_reducible refine Tg.it (fun _ => ?_) _ _) | (with_reducible exact Tg.gr) | (with_reducible exact Tg.cl) | (with_reducible exact Tg.pure) | (with_reducible apply tg_fX7_extendPaths_b18))
theorem tg_fX7_hasEmptyRow_j38 (l0 : Option Nat) (l1 : Int32) (l2 : Int32) : Tg (fX7_hasEmptyRow_j38 l0 l1 l2) := by
  unfold fX7_hasEmptyRow_j38
  repeat (first | (with_reducible exact Tg.pure))
theorem tg_fX7_hasEmptyRow_b2 (c0 : Option Nat) (c1 : Int32) (s2 : Int32) : Tg (fX7_hasEmptyRow_b2 c0 c1 s2) := by
  unfold fX7_hasEmptyRow_b2
  repeat (first | (with_reducible refine Tg.bind ?_ (fun _ => ?_)) | (with_reducible refine Tg.ite ?_ ?_) | (with_reducible refine Tg.oelim ?_ (fun _ => ?_)) | (with_reducible refine Tg.selim (fun _ => ?_) (fun _ => ?_)) | (with_reducible refine Tg.cv ?_) | (with_reducible exact Tg.gi) | (with_reducible exact Tg.gr) | (with_reducible exact Tg.ai) | (with_reducible exact Tg.pure) | (with_reducible apply tg_fX9_rowAt) | (with_reducible apply tg_fX7_hasEmptyRow_j38))
theorem tg_fX7_hasEmptyRow (r0 : Option Nat) (p1 : Int32) : Tg (fX7_hasEmptyRow r0 p1) := by
  unfold fX7_hasEmptyRow
  repeat (first | (with_reducible refine Tg.bind ?_ (fun _ => ?_)) | (with_reducible refine Tg.oelim ?_ (fun _ => ?_)) | (with_reducible refine Tg.selim (fun _ => ?_) (fun _ => ?_)) | (with_reducible refine Tg.it (fun _ => ?_) _ _) | (with_reducible exact Tg.pure) | (with_reducible apply tg_fX7_hasEmptyRow_b2))
theorem tg_fX7_reportTrail_j74 (l0 : Option Nat) (l1 : Int32) (l2 : Int32) : Tg (fX7_reportTrail_j74 l0 l1 l2) := by
  unfold fX7_reportTrail_j74
  repeat (first | (with_reducible exact Tg.pure))
theorem tg_fX7_reportTrail_j53 (l0 : Option Nat) (l1 : Int32) (l2 : Int32) : Tg (fX7_reportTrail_j53 l0 l1 l2) := by
  unfold fX7_reportTrail_j53
  repeat (first | (with_reducible refine Tg.bind ?_ (fun _ => ?_)) | (with_reducible exact Tg.gr) | (with_reducible exact Tg.pi) | (with_reducible exact Tg.pl) | (with_reducible exact Tg.al) | (with_reducible apply tg_fX7_reportTrail_j74))
theorem tg_fX7_reportTrail_b19 (c0 : Option Nat) (c1 : Int32) (s19 : Int32) : Tg (fX7_reportTrail_b19 c0 c1 s19) := by
  unfold fX7_reportTrail_b19
  repeat (first | (with_reducible refine Tg.bind ?_ (fun _ => ?_)) | (with_reducible refine Tg.ite ?_ ?_) | (with_reducible exact Tg.gi) | (with_reducible exact Tg.gl) | (with_reducible exact Tg.gr) | (with_reducible exact Tg.al) | (with_reducible exact Tg.pure) | (with_reducible apply tg_fX7_reportTrail_j53) | (with_reducible apply tg_fX7_reportTrail_j74))
theorem tg_fX7_reportTrail (r0 : Option Nat) (p1 : Int32) : Tg (fX7_reportTrail r0 p1) := by
  unfold fX7_reportTrail
  repeat (first | (with_reducible refine Tg.bind ?_ (fun _ => ?_)) | (with_reducible refine Tg.it (fun _ => ?_) _ _) | (with_reducible exact Tg.gr) | (with_reducible exact Tg.pi) | (with_reducible exact Tg.pl) | (with_reducible exact Tg.pure) | (with_reducible apply tg_fX7_reportTrail_b19))
theorem tg_fX7_bestTrail_j110 (l0 : Option Nat) (l1 : Int32) (l3 : Int32) (l4 : Int32) (l5 : Int32) : Tg (fX7_bestTrail_j110 l0 l1 l3 l4 l5) := by
  unfold fX7_bestTrail_j110
  repeat (first | (with_reducible exact Tg.pure))
theorem tg_fX7_bestTrail_j95 (l0 : Option Nat) (l1 : Int32) (l3 : Int32) (l4 : Int32) (l5 : Int32) (l6 : Option Nat) (s0 : Option Nat) (s1 : Option Nat) (s2 : Bool) : Tg (fX7_bestTrail_j95 l0 l1 l3 l4 l5 l6 s0 s1 s2) := by
  unfold fX7_bestTrail_j95
  repeat (first | (with_reducible refine Tg.bind ?_ (fun _ => ?_)) | (with_reducible refine Tg.cv ?_) | (with_reducible exact Tg.gi) | (with_reducible apply tg_fX7_extendPaths) | (with_reducible apply tg_fX7_bestTrail_j110))
theorem tg_fX7_bestTrail_b61 (c0 : Option Nat) (c1 : Int32) (s61 : Int32 × Int32 × Int32) : Tg (fX7_bestTrail_b61 c0 c1 s61) := by
  unfold fX7_bestTrail_b61
  repeat (first | (with_reducible refine Tg.bind ?_ (fun _ => ?_)) | (with_reducible refine Tg.ite ?_ ?_) | (with_reducible refine Tg.oelim ?_ (fun _ => ?_)) | (with_reducible refine Tg.selim (fun _ => ?_) (fun _ => ?_)) | (with_reducible refine Tg.cv ?_) | (with_reducible exact Tg.gr) | (with_reducible exact Tg.pure) | (with_reducible apply tg_fX9_rowAt) | (with_reducible apply tg_fX7_bestTrail_j110) | (with_reducible apply tg_fX7_bestTrail_j95))
theorem tg_fX7_bestTrail (r0 : Option Nat) (p1 : Int32) : Tg (fX7_bestTrail r0 p1) := by
  unfold fX7_bestTrail
  repeat (first | (with_reducible refine Tg.bind ?_ (fun _ => ?_)) | (with_reducible refine Tg.ite ?_ ?_) | (with_reducible refine Tg.it (fun _ => ?_) _ _) | (with_reducible refine Tg.cv ?_) | (with_reducible exact Tg.gr) | (with_reducible exact Tg.ai) | (with_reducible exact Tg.pure) | (with_reducible apply tg_fX9_gridFault) | (with_reducible apply tg_fX9_firstUnreadable) | (with_reducible apply tg_fX7_hasEmptyRow) | (with_reducible apply tg_fX7_bestTrail_b61) | (with_reducible apply tg_fX7_reportTrail))
theorem tg_fX12_trail (r0 : Option Nat) (p1 : Int32) : Tg (fX12_trail r0 p1) := by
  unfold fX12_trail
  repeat (first | (with_reducible refine Tg.bind ?_ (fun _ => ?_)) | (with_reducible refine Tg.cv ?_) | (with_reducible exact Tg.gr) | (with_reducible exact Tg.pure) | (with_reducible apply tg_fX7_bestTrail) | (with_reducible apply tg_fX12_tally))
theorem tg_fX12_turn (r0 : Option Nat) (p1 : Int32) (p2 : Int32) : Tg (fX12_turn r0 p1 p2) := by
  unfold fX12_turn
  repeat (first | (with_reducible refine Tg.bind ?_ (fun _ => ?_)) | (with_reducible refine Tg.cv ?_) | (with_reducible exact Tg.gr) | (with_reducible exact Tg.pure) | (with_reducible apply tg_fX11_transpose) | (with_reducible apply tg_fX12_tally))
theorem tg_fX3_append (r0 : Option Nat) (p1 : Int32) : Tg (fX3_append r0 p1) := by
  unfold fX3_append
  repeat (first | (with_reducible refine Tg.bind ?_ (fun _ => ?_)) | (with_reducible refine Tg.ite ?_ ?_) | (with_reducible exact Tg.gi) | (with_reducible exact Tg.gr) | (with_reducible exact Tg.pi) | (with_reducible exact Tg.ti) | (with_reducible exact Tg.pure))
theorem tg_fX12_type (r0 : Option Nat) (p1 : Int32) : Tg (fX12_type r0 p1) := by
  unfold fX12_type
  repeat (first | (with_reducible refine Tg.bind ?_ (fun _ => ?_)) | (with_reducible refine Tg.cv ?_) | (with_reducible exact Tg.gr) | (with_reducible exact Tg.pure) | (with_reducible apply tg_fX3_append) | (with_reducible apply tg_fX12_tally))
theorem tg_fX6_writeCell_j56 (l0 : Option Nat) (l1 : Int32) (l2 : Int32) (l3 : Int32) (l4 : Int32) (l5 : Int64) : Tg (fX6_writeCell_j56 l0 l1 l2 l3 l4 l5) := by
  unfold fX6_writeCell_j56
  repeat (first | (with_reducible refine Tg.bind ?_ (fun _ => ?_)) | (with_reducible refine Tg.cv ?_) | (with_reducible exact Tg.pure) | (with_reducible apply tg_fX6_putCell))
theorem tg_fX6_writeCell (r0 : Option Nat) (p1 : Int32) (p2 : Int32) (p3 : Int32) (p4 : Int32) (p5 : Int64) : Tg (fX6_writeCell r0 p1 p2 p3 p4 p5) := by
  unfold fX6_writeCell
  repeat (first | (with_reducible refine Tg.bind ?_ (fun _ => ?_)) | (with_reducible refine Tg.ite ?_ ?_) | (with_reducible refine Tg.oelim ?_ (fun _ => ?_)) | (with_reducible refine Tg.selim (fun _ => ?_) (fun _ => ?_)) | (with_reducible refine Tg.cv ?_) | (with_reducible exact Tg.gi) | (with_reducible exact Tg.gr) | (with_reducible exact Tg.pure) | (with_reducible apply tg_fX12_isGrid) | (with_reducible apply tg_fX12_isPlain) | (with_reducible apply tg_fX9_rowAt) | (with_reducible apply tg_fX6_writeCell_j56) | (with_reducible apply tg_fX5_hasCell))
theorem tg_fX12_write (r0 : Option Nat) (p1 : Int32) (p2 : Int32) (p3 : Int32) (p4 : Int32) (p5 : Int64) : Tg (fX12_write r0 p1 p2 p3 p4 p5) := by
  unfold fX12_write
  repeat (first | (with_reducible refine Tg.bind ?_ (fun _ => ?_)) | (with_reducible refine Tg.cv ?_) | (with_reducible exact Tg.gr) | (with_reducible exact Tg.pure) | (with_reducible apply tg_fX6_writeCell) | (with_reducible apply tg_fX12_tally))
theorem tg_fX9_init_b47 (c0 : Option Nat) (s47 : Int32) : Tg (fX9_init_b47 c0 s47) := by
  unfold fX9_init_b47
  repeat (first | (with_reducible refine Tg.bind ?_ (fun _ => ?_)) | (with_reducible refine Tg.ite ?_ ?_) | (with_reducible refine Tg.cv ?_) | (with_reducible exact Tg.gr) | (with_reducible exact Tg.tr) | (with_reducible exact Tg.no) | (with_reducible exact Tg.pure) | (with_reducible apply tg_fX5_init))
theorem tg_fX9_init (r0 : Option Nat) : Tg (fX9_init r0) := by
  unfold fX9_init
  repeat (first | (with_reducible refine Tg.bind ?_ (fun _ => ?_)) | (with_reducible refine Tg.it (fun _ => ?_) _ _) | (with_reducible exact Tg.gr) | (with_reducible exact Tg.pr) | (with_reducible exact Tg.ck) | (with_reducible exact Tg.na) | (with_reducible exact Tg.pure) | (with_reducible apply tg_fJ7_fill_53178) | (with_reducible apply tg_fX9_init_b47))
theorem tg_fX12_keep_j35 (l0 : Option Nat) (l1 : Int32) : Tg (fX12_keep_j35 l0 l1) := by
  unfold fX12_keep_j35
  repeat (first | (with_reducible refine Tg.bind ?_ (fun _ => ?_)) | (with_reducible refine Tg.cv ?_) | (with_reducible exact Tg.gr) | (with_reducible exact Tg.ar) | (with_reducible exact Tg.pure) | (with_reducible apply tg_fX9_copyFrom) | (with_reducible apply tg_fX9_presentGrids))
theorem tg_fX12_keep (r0 : Option Nat) (p1 : Int32) : Tg (fX12_keep r0 p1) := by
  unfold fX12_keep
  repeat (first | (with_reducible refine Tg.bind ?_ (fun _ => ?_)) | (with_reducible refine Tg.ite ?_ ?_) | (with_reducible refine Tg.oelim ?_ (fun _ => ?_)) | (with_reducible refine Tg.selim (fun _ => ?_) (fun _ => ?_)) | (with_reducible refine Tg.cv ?_) | (with_reducible exact Tg.gr) | (with_reducible exact Tg.ar) | (with_reducible exact Tg.tr) | (with_reducible exact Tg.no) | (with_reducible exact Tg.pure) | (with_reducible apply tg_fX12_isImage) | (with_reducible apply tg_fX9_init) | (with_reducible apply tg_fX12_keep_j35) | (with_reducible apply tg_fX12_tally))
theorem tg_fX3_wordOf (r0 : Option Nat) (p1 : Int32) : Tg (fX3_wordOf r0 p1) := by
  unfold fX3_wordOf
  repeat (first | (with_reducible refine Tg.bind ?_ (fun _ => ?_)) | (with_reducible exact Tg.gr) | (with_reducible exact Tg.ai) | (with_reducible exact Tg.xw) | (with_reducible exact Tg.pure))
theorem tg_fX3_standsAt_b2 (c0 : Option Nat) (c1 : Nat) (c2 : Int32) (s2 : Int32) : Tg (fX3_standsAt_b2 c0 c1 c2 s2) := by
  unfold fX3_standsAt_b2
  repeat (first | (with_reducible refine Tg.bind ?_ (fun _ => ?_)) | (with_reducible refine Tg.ite ?_ ?_) | (with_reducible exact Tg.gr) | (with_reducible exact Tg.ai) | (with_reducible exact Tg.sk) | (with_reducible exact Tg.sc) | (with_reducible exact Tg.pure))
theorem tg_fX3_standsAt (r0 : Option Nat) (p1 : Nat) (p2 : Int32) : Tg (fX3_standsAt r0 p1 p2) := by
  unfold fX3_standsAt
  repeat (first | (with_reducible refine Tg.bind ?_ (fun _ => ?_)) | (with_reducible refine Tg.oelim ?_ (fun _ => ?_)) | (with_reducible refine Tg.selim (fun _ => ?_) (fun _ => ?_)) | (with_reducible refine Tg.it (fun _ => ?_) _ _) | (with_reducible exact Tg.pure) | (with_reducible apply tg_fX3_standsAt_b2))
theorem tg_fX3_wordAt_j51 (l0 : Option Nat) (l1 : Int32) (l2 : Int32) (l3 : Int32) : Tg (fX3_wordAt_j51 l0 l1 l2 l3) := by
  unfold fX3_wordAt_j51
  repeat (first | (with_reducible exact Tg.pure))
theorem tg_fX3_wordAt_b10 (c0 : Option Nat) (c1 : Int32) (c2 : Int32) (s10 : Int32) : Tg (fX3_wordAt_b10 c0 c1 c2 s10) := by
  unfold fX3_wordAt_b10
  repeat (first | (with_reducible refine Tg.bind ?_ (fun _ => ?_)) | (with_reducible refine Tg.ite ?_ ?_) | (with_reducible refine Tg.cv ?_) | (with_reducible exact Tg.xw) | (with_reducible exact Tg.sk) | (with_reducible exact Tg.pure) | (with_reducible apply tg_fX3_wordAt_j51) | (with_reducible apply tg_fX3_standsAt))
theorem tg_fX3_wordAt (r0 : Option Nat) (p1 : Int32) : Tg (fX3_wordAt r0 p1) := by
  unfold fX3_wordAt
  repeat (first | (with_reducible refine Tg.bind ?_ (fun _ => ?_)) | (with_reducible refine Tg.oelim ?_ (fun _ => ?_)) | (with_reducible refine Tg.selim (fun _ => ?_) (fun _ => ?_)) | (with_reducible refine Tg.it (fun _ => ?_) _ _) | (with_reducible refine Tg.cv ?_) | (with_reducible exact Tg.pure) | (with_reducible apply tg_fX3_endOfLetters) | (with_reducible apply tg_fX3_wordAt_b10))
theorem tg_fX3_parse_j167 (l0 : Option Nat) (l1 : Int32) (l2 : Int32) : Tg (fX3_parse_j167 l0 l1 l2) := by
  unfold fX3_parse_j167
  repeat (first | (with_reducible refine Tg.bind ?_ (fun _ => ?_)) | (with_reducible refine Tg.ite ?_ ?_) | (with_reducible exact Tg.gi) | (with_reducible exact Tg.pure))
theorem tg_fX3_parse_j148 (l2 : Int32) : Tg (fX3_parse_j148 l2) := by
  unfold fX3_parse_j148
  repeat (first | (with_reducible exact Tg.pure))
theorem tg_fX3_parse_j93 (l2 : Int32) : Tg (fX3_parse_j93 l2) := by
  unfold fX3_parse_j93
  repeat (first | (with_reducible exact Tg.pure))
theorem tg_fX3_parse_b59 (c0 : Option Nat) (c1 : Int32) (c3 : Int32) (s59 : Int32 × Int32) : Tg (fX3_parse_b59 c0 c1 c3 s59) := by
  unfold fX3_parse_b59
  repeat (first | (with_reducible refine Tg.bind ?_ (fun _ => ?_)) | (with_reducible refine Tg.ite ?_ ?_) | (with_reducible refine Tg.cv ?_) | (with_reducible exact Tg.gr) | (with_reducible exact Tg.ti) | (with_reducible exact Tg.xw) | (with_reducible exact Tg.sk) | (with_reducible exact Tg.pure) | (with_reducible apply tg_fX3_endOfDigits) | (with_reducible apply tg_fX3_parse_j93) | (with_reducible apply tg_fX3_numberIn) | (with_reducible apply tg_fX3_endOfSpaces))
theorem tg_fX3_parse_b8 (c0 : Option Nat) (s8 : Int32 × Int32) : Tg (fX3_parse_b8 c0 s8) := by
  unfold fX3_parse_b8
  repeat (first | (with_reducible refine Tg.bind ?_ (fun _ => ?_)) | (with_reducible refine Tg.ite ?_ ?_) | (with_reducible refine Tg.oelim ?_ (fun _ => ?_)) | (with_reducible refine Tg.selim (fun _ => ?_) (fun _ => ?_)) | (with_reducible refine Tg.it (fun _ => ?_) _ _) | (with_reducible refine Tg.cv ?_) | (with_reducible exact Tg.gi) | (with_reducible exact Tg.gr) | (with_reducible exact Tg.ai) | (with_reducible exact Tg.ti) | (with_reducible exact Tg.pure) | (with_reducible apply tg_fX3_wordAt) | (with_reducible apply tg_fX3_endOfLetters) | (with_reducible apply tg_fX3_endOfSpaces) | (with_reducible apply tg_fX3_parse_b59) | (with_reducible apply tg_fX3_parse_j148))
theorem tg_fX3_parse (r0 : Option Nat) : Tg (fX3_parse r0) := by
  unfold fX3_parse
  repeat (first | (with_reducible refine Tg.bind ?_ (fun _ => ?_)) | (with_reducible refine Tg.oelim ?_ (fun _ => ?_)) | (with_reducible refine Tg.selim (fun _ => ?_) (fun _ => ?_)) | (with_reducible refine Tg.it (fun _ => ?_) _ _) | (with_reducible refine Tg.cv ?_) | (with_reducible exact Tg.pure) | (with_reducible apply tg_fX3_endOfSpaces) | (with_reducible apply tg_fX3_parse_b8) | (with_reducible apply tg_fX3_parse_j167))
theorem tg_fX12_carryOut (r0 : Option Nat) (p1 : Int32) : Tg (fX12_carryOut r0 p1) := by
  unfold fX12_carryOut
  repeat (first | (with_reducible refine Tg.bind ?_ (fun _ => ?_)) | (with_reducible refine Tg.ite ?_ ?_) | (with_reducible refine Tg.cv ?_) | (with_reducible exact Tg.gr) | (with_reducible exact Tg.xs) | (with_reducible exact Tg.sk) | (with_reducible exact Tg.pure) | (with_reducible apply tg_fX3_numberOf) | (with_reducible apply tg_fX3_wordOf) | (with_reducible apply tg_fX9_newRow) | (with_reducible apply tg_fX9_removeGrid) | (with_reducible apply tg_fX9_exchange) | (with_reducible apply tg_fX9_shareContent) | (with_reducible apply tg_fX6_cutOut) | (with_reducible apply tg_fX6_castRow) | (with_reducible apply tg_fX6_joinRows) | (with_reducible apply tg_fX6_reverse) | (with_reducible apply tg_fX6_rotate) | (with_reducible apply tg_fX6_sortRow) | (with_reducible apply tg_fX6_increase) | (with_reducible apply tg_fX11_flatten) | (with_reducible apply tg_fX11_dealOut) | (with_reducible apply tg_fX11_transpose))
theorem tg_fX12_plan_b21 (c0 : Option Nat) (c1 : Int32) (s21 : Int32) : Tg (fX12_plan_b21 c0 c1 s21) := by
  unfold fX12_plan_b21
  repeat (first | (with_reducible refine Tg.bind ?_ (fun _ => ?_)) | (with_reducible refine Tg.ite ?_ ?_) | (with_reducible refine Tg.cv ?_) | (with_reducible exact Tg.gr) | (with_reducible exact Tg.pi) | (with_reducible exact Tg.pure) | (with_reducible apply tg_fX12_carryOut) | (with_reducible apply tg_fX9_copyFrom) | (with_reducible apply tg_fX12_tally))
theorem tg_fX12_plan (r0 : Option Nat) : Tg (fX12_plan r0) := by
  unfold fX12_plan
  repeat (first | (with_reducible refine Tg.bind ?_ (fun _ => ?_)) | (with_reducible refine Tg.oelim ?_ (fun _ => ?_)) | (with_reducible refine Tg.selim (fun _ => ?_) (fun _ => ?_)) | (with_reducible refine Tg.it (fun _ => ?_) _ _) | (with_reducible refine Tg.cv ?_) | (with_reducible exact Tg.gr) | (with_reducible exact Tg.pure) | (with_reducible apply tg_fX3_parse) | (with_reducible apply tg_fX9_copyFrom) | (with_reducible apply tg_fX12_plan_b21))
