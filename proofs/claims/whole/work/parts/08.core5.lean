/-! CORE 5: contracts, calls, new cells, numbers -/
/-- A METHOD'S CONTRACT: with these arguments it does what F says -/
def dnMt (w : dnWd) (x : dnX) (b : Nat) (y : MethodName) (cc : ByteArray) (nL : Nat) (ret : Option FieldType) (rm : Room) {α : Type} (em : α → Option Value) (As : List Value) (F : dnM α) : Prop :=
  ∀ (l : Launch) (h : dnH) (a : α) (h1 : dnH), F h = some (a, h1) → Met l y (Cond.code y cc nL ret :: lw_ok) rm (va_Pc As (fun U => dnRep w x b h U)) (fun _ st o t => o = .returned (em a) ∧ dnRep w x b h1 t ∧ va_F (fun q => b ≤ q) st t) rm.cells rm.slots (fun q => b ≤ q)
def dnRO (ret : Option FieldType) (v : Option Value) : Prop := match v with
  | none => ret = none
  | some (.int i) => ∃ ty, ret = some ty ∧ narrow ty (.int i) = .int i
  | some (.long _) => ret = some .long
  | some (.float _) => ret = some .float
  | some (.double _) => ret = some .double
  | some v => (v = .null ∨ ∃ a, v = .ref a) ∧ ∃ n, ret = some (.object n)
abbrev eI : Int32 → Option Value := fun v => some (.int v)
abbrev eZ : Bool → Option Value := fun v => some (.int (dnZ v))
abbrev eL : Int64 → Option Value := fun v => some (.long v)
abbrev eF : UInt32 → Option Value := fun v => some (.float v)
abbrev eD : UInt64 → Option Value := fun v => some (.double v)
abbrev eR (b : Nat) : Option Nat → Option Value := fun v => some (dnV b v)
abbrev eU : Unit → Option Value := fun _ => none
theorem roI : ∀ a, dnRO (some .int) (eI a) := fun _ => ⟨_, rfl, rfl⟩
theorem roZ : ∀ a, dnRO (some .boolean) (eZ a) := fun a => ⟨_, rfl, by cases a <;> rfl⟩
theorem roL : ∀ a, dnRO (some .long) (eL a) := fun _ => rfl
theorem roF : ∀ a, dnRO (some .float) (eF a) := fun _ => rfl
theorem roD : ∀ a, dnRO (some .double) (eD a) := fun _ => rfl
theorem roR {b : Nat} {n : String} : ∀ a, dnRO (some (.object n)) (eR b a) := fun a => by
  cases a with
  | none => exact ⟨Or.inl rfl, n, rfl⟩
  | some z => exact ⟨Or.inr ⟨_, rfl⟩, n, rfl⟩
theorem roU : ∀ a, dnRO none (eU a) := fun _ => rfl
theorem dnRep.blind {w : dnWd} {x : dnX} {b : Nat} {h : dnH} {As : List Value} : FrameBlind (va_Pc As (fun U => dnRep w x b h U)) := by
  intro a U g mk q
  obtain ⟨q0, q1, q2, q3, q4⟩ := q
  exact ⟨q0, q1, va_K.moved (u := U) (U := U.calling g mk a) (Vm.Alike.refl U.vm) q2, dnExt.moved (u := U) (U := U.calling g mk a) (Vm.Alike.refl U.vm) q3, dnSt.same (s := U) (U := U.calling g mk a) rfl q4⟩
theorem dnCtx.rep {w : dnWd} {x : dnX} {b : Nat} {G : State → Prop} {cc : ByteArray} {own : String} {nL : Nat} {nm : String} {p : Program} {s : State} {m : MethodId} {args : Array Value} {meth : Method} {c : Code} {h : dnH} {H : Heap} {locs : List Loc} (hC : dnCtx w x b G cc own nL nm p s m args meth c) (hR : dnR w b h H) (hS : va_S (fun q => b ≤ q) s.heap H locs) {U : State} (hU : U.heap = H) (hW : s.WarmedH U.vm) : dnRep w x b h U := by
  obtain ⟨hx, hb, hml, hown, hts, hnm, hK, hX, hbs, hSt, hG⟩ := hC
  refine ⟨by rw [hU]; exact hR, va_K.moved hW.alike hK, ?_, hSt.warm hW⟩
  rw [hU]
  exact (hX.kept (fun a h1 h2 => hS.2.1 a h1 h2)).moved hW.alike
theorem dn_mt {w : dnWd} {x : dnX} {b : Nat} {y : MethodName} {cc : ByteArray} {nL : Nat} {ret : Option FieldType} {rm : Room} {α : Type} {em : α → Option Value} {As : List Value} {F : dnM α} (hpl : plainFor y = true) (hro : ∀ a, dnRO ret (em a)) (hlen : (lg_sl As).length ≤ nL) (k : dnD w x b (fun _ => True) cc y.cls nL rm y.name em 0 0 0 (lv_args 0 As) [] F) : dnMt w x b y cc nL ret rm em As F := by
  intro l h a h1 hF
  refine va_MetF (cc := cc) (maxL := nL) (ret := ret) hpl rfl ?_
  intro p e s m args below meth c s₁ B hml hv
  obtain ⟨rfl, hR, hK, hX, hSt⟩ := hv
  have hts := atoms_spec (ws := Cond.code y cc nL ret :: lw_ok) B.pre
  have hlocks := B.notSynchronized
  have hl := lv_entry As (n := nL) hlen
  rw [lg_entry_eq]
  generalize (lg_sl As ++ List.replicate (nL - (lg_sl As).length) Slot.unset).toArray = ls at hl ⊢
  have hC : dnCtx w x b (fun _ => True) cc y.cls nL y.name p s m As.toArray meth c := ⟨B.exec, B.bytes, hml, findClass_of_methodNamed B.named, fun wd hw => hts wd (List.mem_cons_of_mem _ hw), (name_of_methodNamed B.named B.method).1, hK, hX, by rw [hR.1]; exact Nat.le_add_right _ _, hSt, trivial⟩
  have hr := B.returns
  refine k p l e s m As.toArray below meth c _ h a h1 s.heap [] ls hC hF hR va_S.rf hl ?_
  intro H1 locs1 ls1 pc1 hR1 hS1 hd
  have hq : ∀ t : State, t.heap = H1 → s.WarmedH t.vm → (em a) = (em a) ∧ dnRep w x b h1 t ∧ va_F (fun q => b ≤ q) s t := fun t ht hW => ⟨rfl, hC.rep hR1 hS1 ht hW, hS1.F ht⟩
  have hro := hro a
  revert hd hq hro
  generalize em a = v
  intro hd hro hq
  cases v with
  | none => exact W.vret B.exec B.bytes (by rw [hr]; exact hq) (fun t ht hW => ⟨rfl, (hro t ht hW).2⟩) hS1.2.2 hd
  | some v =>
    cases v with
    | int i =>
      obtain ⟨ty, e1, e2⟩ := hq
      exact W.zret B.exec B.bytes (by rw [hr]; exact e1) e2 (fun t ht hW => ⟨rfl, (hro t ht hW).2⟩) hS1.2.2 hd
    | long i => exact W.lret B.exec B.bytes (by rw [hr]; exact hq) (fun t ht hW => ⟨rfl, (hro t ht hW).2⟩) hS1.2.2 hd
    | float i => exact W.fret B.exec B.bytes (by rw [hr]; exact hq) (fun t ht hW => ⟨rfl, (hro t ht hW).2⟩) hS1.2.2 hd
    | double i => exact W.dret B.exec B.bytes (by rw [hr]; exact hq) (fun t ht hW => ⟨rfl, (hro t ht hW).2⟩) hS1.2.2 hd
    | null =>
      obtain ⟨e1, n, e2⟩ := hq
      exact W.aret B.exec B.bytes (by rw [hr]; exact e2) (Or.inl ⟨n, rfl⟩) e1 (fun t ht hW => ⟨rfl, (hro t ht hW).2⟩) hS1.2.2 hd
    | ref z =>
      obtain ⟨e1, n, e2⟩ := hq
      exact W.aret B.exec B.bytes (by rw [hr]; exact e2) (Or.inl ⟨n, rfl⟩) e1 (fun t ht hW => ⟨rfl, (hro t ht hW).2⟩) hS1.2.2 hd
    | _ => exact absurd hq.1 (by intro z; rcases z with z | ⟨_, z⟩ <;> cases z)
section DN
variable {w : dnWd} {x : dnX} {b : Nat} {G : State → Prop} {cc : ByteArray} {own : String} {nL : Nat} {rm : Room} {nm : String} {α β γ : Type} {em : α → Option Value} {pc cells slots : Nat} {lv : List (Nat × Value)} {st : List Value} {F : dnM α}
theorem dn_ran {p : Program} {l : Launch} {e : Env} {s : State} {m : MethodId} {args : Array Value} {below : List Frame} {meth : Method} {c : Code} {H : Heap} {locs : List Loc} {Q : State → Prop} {ls : Array Slot} {mc ms : Nat} {st0 rest : List Value} {v : Option Value} {h2 : dnH}
    (hr : va_Run p l e rm s m args below meth c H locs cells slots mc ms (F0 m pc ls st0) rest (fun st o t => o = .returned v ∧ dnRep w x b h2 t ∧ va_F (fun q => b ≤ q) st t) (fun q => b ≤ q)) (hS : va_S (fun q => b ≤ q) s.heap H locs)
    (kk : ∀ (H1 : Heap) (locs1 : List Loc), dnR w b h2 H1 → va_S (fun q => b ≤ q) s.heap H1 locs1 → W p l e rm s m args below meth c H1 locs1 (cells + mc) (slots + ms) Q (F0 m (pc + 3) ls (v.toList ++ rest))) : W p l e rm s m args below meth c H locs cells slots Q (F0 m pc ls st0) := by
  intro T hT X
  obtain ⟨v1, st₀, t, T', L, h0, X', hL, e1, e2, ⟨hv, hrep, hz, hk⟩, stp⟩ := hr T hT X
  cases hv
  rw [h0] at hz hk
  obtain ⟨t2, a1, b1⟩ := kk T'.heap (locs ++ L) (by rw [e1]; exact hrep.1)
    ⟨Nat.le_trans hS.1 (by rw [e1]; exact hz), fun q h1 h2 => by rw [e1, hk q (Nat.lt_of_lt_of_le h1 hS.1) h2]; exact hS.2.1 q h1 h2, fun q hq => by
      rcases List.mem_append.mp hq with h | h
      · exact hS.2.2 q h
      · exact hL q h⟩ T' rfl X'
  exact ⟨t2, stp t2 a1, b1⟩
/-- an instance method by its entry of the pool -/
def dnLV (own : String) (idx n t : Nat) (y : MethodName) (cc : ByteArray) (nL : Nat) (ret : Option FieldType) : Prop := Cond.methodLink own idx y ∈ lw_ok ∧ Cond.instanceMethod y ∈ lw_ok ∧ Cond.selects y.cls y y ∈ lw_ok ∧ Cond.initialized y.cls ∈ lw_ok ∧ Cond.code y cc nL ret ∈ lw_ok ∧ (y.cls ≠ "java/lang/invoke/MethodHandle" ∧ y.cls ≠ "java/lang/invoke/VarHandle" ∧ (parseMethodDescriptor y.desc).map (fun d => d.parameters.length) = some n) ∧ t < 100 ∧ ∃ q, vwCl[t]? = some q ∧ q.1 = y.cls
def dnLS (own : String) (idx n : Nat) (y : MethodName) (cc : ByteArray) (nL : Nat) (ret : Option FieldType) : Prop := Cond.methodLink own idx y ∈ lw_ok ∧ Cond.static y ∈ lw_ok ∧ Cond.initialized y.cls ∈ lw_ok ∧ Cond.code y cc nL ret ∈ lw_ok ∧ (y.cls ≠ "java/lang/invoke/MethodHandle" ∧ y.cls ≠ "java/lang/invoke/VarHandle" ∧ (parseMethodDescriptor y.desc).map (fun d => d.parameters.length) = some n)
def dnLI (own : String) (idx n : Nat) (y : MethodName) (cc : ByteArray) (nL : Nat) : Prop := Cond.methodLink own idx y ∈ lw_ok ∧ Cond.instanceMethod y ∈ lw_ok ∧ Cond.initialized y.cls ∈ lw_ok ∧ Cond.code y cc nL none ∈ lw_ok ∧ y.name = "<init>" ∧ (y.cls ≠ "java/lang/invoke/MethodHandle" ∧ y.cls ≠ "java/lang/invoke/VarHandle" ∧ (parseMethodDescriptor y.desc).map (fun d => d.parameters.length) = some n)
def dnLSN (own host : String) (idx n : Nat) (y : MethodName) (cc : ByteArray) (nL : Nat) (ret : Option FieldType) : Prop := Cond.methodLinkNest own idx y host ∈ lw_nest ∧ Cond.static y ∈ lw_ok ∧ Cond.initialized y.cls ∈ lw_ok ∧ Cond.code y cc nL ret ∈ lw_ok ∧ (y.cls ≠ "java/lang/invoke/MethodHandle" ∧ y.cls ≠ "java/lang/invoke/VarHandle" ∧ (parseMethodDescriptor y.desc).map (fun d => d.parameters.length) = some n)
def dnLIN (own host : String) (idx n : Nat) (y : MethodName) (cc : ByteArray) (nL : Nat) : Prop := Cond.methodLinkNest own idx y host ∈ lw_nest ∧ Cond.instanceMethod y ∈ lw_ok ∧ Cond.initialized y.cls ∈ lw_ok ∧ Cond.code y cc nL none ∈ lw_ok ∧ y.name = "<init>" ∧ (y.cls ≠ "java/lang/invoke/MethodHandle" ∧ y.cls ≠ "java/lang/invoke/VarHandle" ∧ (parseMethodDescriptor y.desc).map (fun d => d.parameters.length) = some n)
theorem dn_goodc {y : MethodName} {cc : ByteArray} {nL : Nat} {ret : Option FieldType} (h : Cond.code y cc nL ret ∈ lw_ok) : GoodIn lw_ok (Cond.code y cc nL ret :: lw_ok) := fun wd hw => by
  rcases List.mem_cons.mp hw with rfl | hw
  · exact lw_good _ h
  · exact lw_good _ hw
theorem dn_room {st : List Value} (h : st.length ≤ 4) : (st.map fun v => v.category).sum ≤ 8 := by
  match st, h with
  | [], _ => exact Nat.zero_le _
  | [p], _ => rcases lv_cat p with h1 | h1 <;> simp [h1]
  | [p, q], _ => rcases lv_cat p with h1 | h1 <;> rcases lv_cat q with h2 | h2 <;> simp [h1, h2]
  | [p, q, r], _ => rcases lv_cat p with h1 | h1 <;> rcases lv_cat q with h2 | h2 <;> rcases lv_cat r with h3 | h3 <;> simp [h1, h2, h3]
  | [p, q, r, t], _ => rcases lv_cat p with h1 | h1 <;> rcases lv_cat q with h2 | h2 <;> rcases lv_cat r with h3 | h3 <;> rcases lv_cat t with h4 | h4 <;> simp [h1, h2, h3, h4]
  | _ :: _ :: _ :: _ :: _ :: _, h => exact absurd h (by simp)
/-- the call itself, in F: the receiver is of its kind, and the method does what X says -/
def dnCv {γ : Type} (r : Option Nat) (t : Nat) (X : dnM γ) : dnM γ := dnB (dnCk r t) fun _ => X
theorem dn_callV {idx n t : Nat} {y : MethodName} {cc2 : ByteArray} {nL2 : Nat} {rm2 : Room} {ret2 : Option FieldType} {em2 : γ → Option Value} {X : dnM γ} {f : γ → dnM β} {g : β → dnM α} {st0 : List Value} (As : List Value) (r : Option Nat) (hL : dnLV own idx n t y cc2 nL2 ret2) (hM : dnMt w x b y cc2 nL2 ret2 rm2 em2 (dnV b r :: As) X) (hst : st0 = As.reverse ++ dnV b r :: st) (hn : As.length = n) (hw : st.length ≤ 4) (hrm : rm2.frames + 1 ≤ rm.frames ∧ 8 + (nL2 + 11) + rm2.locals ≤ rm.locals) (hcs : cells + rm2.cells ≤ rm.cells ∧ slots + rm2.slots ≤ rm.slots) (hdg : decode cc pc = .ok (.invokevirtual idx, 3))
    (kk : ∀ v, dnD w x b G cc own nL rm nm em (pc + 3) (cells + rm2.cells) (slots + rm2.slots) lv ((em2 v).toList ++ st) (dnB (f v) g)) : dnD w x b G cc own nL rm nm em pc cells slots lv st0 (dnB (dnB (dnCv r t X) f) g) := by
  subst hst
  intro p l e s m args below meth c Q h a h1 H locs ls hC hF hR hS hl hq
  obtain ⟨hx, hb, hml, hown, hts, hnm, hK, hX, hbs, hSt, hG⟩ := id hC
  rw [dnB_assoc] at hF
  obtain ⟨v, h2, e1, e2⟩ := dnB_inv hF
  obtain ⟨u, h3, e3, e4⟩ := dnB_inv e1
  obtain ⟨⟨a0, n0⟩, hat, he⟩ := Option.map_eq_some_iff.mp e3
  cases he
  obtain ⟨rfl, hq0⟩ := dnAt_inv hat
  obtain ⟨g1, g2, g3, g4, g5, g6, ht, q, hc, hcy⟩ := hL
  have hw0 := dnWs_get (w := w) (b := b) hq0
  rw [dnE_obj ht] at hw0
  have hrv := va_recv hK hR.2 hc hw0
  rw [hcy] at hrv
  have hG2 : GoodIn lw_ok (wsV own idx y.cls y (Cond.code y cc2 nL2 ret2 :: lw_ok)) := fun wd hwd => by
    unfold wsV at hwd
    rcases List.mem_append.mp hwd with h9 | h9
    · simp only [List.mem_cons, List.not_mem_nil, or_false] at h9
      rcases h9 with rfl | rfl | rfl | rfl <;> first | exact lw_good _ g1 | exact lw_good _ g2 | exact lw_good _ g3 | exact lw_good _ g4
    · exact dn_goodc g5 wd h9
  refine dn_ran (va_runV (As := As) (rest := st) ⟨hx, hb, hml, hown, hts⟩ (hM l h v h2 e4) (cwV n hts hG2 rfl rfl rfl ⟨rfl, g6⟩ hrm) ⟨dnRep.blind, hrv, fun U hU hW => ⟨rfl, hC.rep hR hS hU hW⟩⟩ rfl hn hl.1 rfl (lv_room (dn_room hw)) hdg hcs) hS (fun H1 locs1 hR1 hS1 => ?_)
  exact kk v p l e s m args below meth c Q h2 a h1 H1 locs1 ls hC e2 hR1 hS1 hl hq
theorem dn_callS {idx n : Nat} {y : MethodName} {cc2 : ByteArray} {nL2 : Nat} {rm2 : Room} {ret2 : Option FieldType} {em2 : γ → Option Value} {X : dnM γ} {f : γ → dnM β} {g : β → dnM α} {st0 : List Value} (As : List Value)  (hL : dnLS own idx n y cc2 nL2 ret2) (hM : dnMt w x b y cc2 nL2 ret2 rm2 em2 (As) X) (hst : st0 = As.reverse ++ st) (hn : As.length = n) (hw : st.length ≤ 4) (hrm : rm2.frames + 1 ≤ rm.frames ∧ 8 + (nL2 + 11) + rm2.locals ≤ rm.locals) (hcs : cells + rm2.cells ≤ rm.cells ∧ slots + rm2.slots ≤ rm.slots) (hdg : decode cc pc = .ok (.invokestatic idx, 3))
    (kk : ∀ v, dnD w x b G cc own nL rm nm em (pc + 3) (cells + rm2.cells) (slots + rm2.slots) lv ((em2 v).toList ++ st) (dnB (f v) g)) : dnD w x b G cc own nL rm nm em pc cells slots lv st0 (dnB (dnB (X) f) g) := by
  subst hst
  intro p l e s m args below meth c Q h a h1 H locs ls hC hF hR hS hl hq
  obtain ⟨hx, hb, hml, hown, hts, hnm, hK, hX, hbs, hSt, hG⟩ := id hC
  rw [dnB_assoc] at hF
  obtain ⟨v, h2, e1, e2⟩ := dnB_inv hF
  obtain ⟨g1, g2, g4, g5, g6⟩ := hL
  have hG2 : GoodIn lw_ok (va_wsS own idx y (Cond.code y cc2 nL2 ret2 :: lw_ok)) := fun wd hwd => by
    unfold va_wsS at hwd
    rcases List.mem_append.mp hwd with h9 | h9
    · simp only [List.mem_cons, List.not_mem_nil, or_false] at h9
      rcases h9 with rfl | rfl | rfl <;> first | exact lw_good _ g1 | exact lw_good _ g2 | exact lw_good _ g4
    · exact dn_goodc g5 wd h9
  refine dn_ran (va_runS (As := As) (rest := st) ⟨hx, hb, hml, hown, hts⟩ (hM l h v h2 e1) (va_cwS n hts hG2 rfl rfl rfl g6 hrm) ⟨dnRep.blind, fun U hU hW => ⟨rfl, hC.rep hR hS hU hW⟩⟩ rfl hn hl.1 rfl (lv_room (dn_room hw)) hdg hcs) hS (fun H1 locs1 hR1 hS1 => ?_)
  exact kk v p l e s m args below meth c Q h2 a h1 H1 locs1 ls hC e2 hR1 hS1 hl hq
theorem dn_callSN {idx n : Nat} {y : MethodName} {cc2 : ByteArray} {nL2 : Nat} {rm2 : Room} {ret2 : Option FieldType} {host : String} {em2 : γ → Option Value} {X : dnM γ} {f : γ → dnM β} {g : β → dnM α} {st0 : List Value} (As : List Value)  (hL : dnLSN own host idx n y cc2 nL2 ret2) (hM : dnMt w x b y cc2 nL2 ret2 rm2 em2 (As) X) (hst : st0 = As.reverse ++ st) (hn : As.length = n) (hw : st.length ≤ 4) (hrm : rm2.frames + 1 ≤ rm.frames ∧ 8 + (nL2 + 11) + rm2.locals ≤ rm.locals) (hcs : cells + rm2.cells ≤ rm.cells ∧ slots + rm2.slots ≤ rm.slots) (hdg : decode cc pc = .ok (.invokestatic idx, 3))
    (kk : ∀ v, dnD w x b G cc own nL rm nm em (pc + 3) (cells + rm2.cells) (slots + rm2.slots) lv ((em2 v).toList ++ st) (dnB (f v) g)) : dnD w x b G cc own nL rm nm em pc cells slots lv st0 (dnB (dnB (X) f) g) := by
  subst hst
  intro p l e s m args below meth c Q h a h1 H locs ls hC hF hR hS hl hq
  obtain ⟨hx, hb, hml, hown, hts, hnm, hK, hX, hbs, hSt, hG⟩ := id hC
  rw [dnB_assoc] at hF
  obtain ⟨v, h2, e1, e2⟩ := dnB_inv hF
  obtain ⟨g1, g2, g4, g5, g6⟩ := hL
  refine dn_ran (va_runSN (As := As) (rest := st) ⟨hx, hb, hml, hown, hts⟩ (hM l h v h2 e1) ⟨va_cnB n hts (dn_goodc g5) rfl rfl rfl (hSt.1 _ g1) (hts _ g4) g6 hrm, hts _ g2, trivial⟩ ⟨dnRep.blind, fun U hU hW => ⟨rfl, hC.rep hR hS hU hW⟩⟩ rfl hn hl.1 rfl (lv_room (dn_room hw)) hdg hcs) hS (fun H1 locs1 hR1 hS1 => ?_)
  exact kk v p l e s m args below meth c Q h2 a h1 H1 locs1 ls hC e2 hR1 hS1 hl hq
theorem dn_callI {idx n t : Nat} {y : MethodName} {cc2 : ByteArray} {nL2 : Nat} {rm2 : Room} {em2 : γ → Option Value} {X : dnM γ} {f : γ → dnM β} {g : β → dnM α} {st0 : List Value} (As : List Value) (r : Option Nat) (hL : dnLI own idx n y cc2 nL2) (hM : dnMt w x b y cc2 nL2 none rm2 em2 (dnV b r :: As) X) (hst : st0 = As.reverse ++ dnV b r :: st) (hn : As.length = n) (hw : st.length ≤ 4) (hrm : rm2.frames + 1 ≤ rm.frames ∧ 8 + (nL2 + 11) + rm2.locals ≤ rm.locals) (hcs : cells + rm2.cells ≤ rm.cells ∧ slots + rm2.slots ≤ rm.slots) (hdg : decode cc pc = .ok (.invokespecial idx, 3))
    (kk : ∀ v, dnD w x b G cc own nL rm nm em (pc + 3) (cells + rm2.cells) (slots + rm2.slots) lv ((em2 v).toList ++ st) (dnB (f v) g)) : dnD w x b G cc own nL rm nm em pc cells slots lv st0 (dnB (dnB (dnCv r t X) f) g) := by
  subst hst
  intro p l e s m args below meth c Q h a h1 H locs ls hC hF hR hS hl hq
  obtain ⟨hx, hb, hml, hown, hts, hnm, hK, hX, hbs, hSt, hG⟩ := id hC
  rw [dnB_assoc] at hF
  obtain ⟨v, h2, e1, e2⟩ := dnB_inv hF
  obtain ⟨u, h3, e3, e4⟩ := dnB_inv e1
  obtain ⟨⟨a0, n0⟩, hat, he⟩ := Option.map_eq_some_iff.mp e3
  cases he
  obtain ⟨rfl, hq0⟩ := dnAt_inv hat
  obtain ⟨g1, g2, g4, g5, g7, g6⟩ := hL
  refine dn_ran (va_runI (As := As) (rest := st) ⟨hx, hb, hml, hown, hts⟩ (hM l h v h2 e4) (cwI n hts (dn_goodc g5) rfl rfl rfl (hts _ g4) (hts _ g1) (hts _ g2) g7 g6 hrm) ⟨dnRep.blind, fun U hU hW => ⟨rfl, hC.rep hR hS hU hW⟩⟩ rfl hn hl.1 rfl (lv_room (dn_room hw)) hdg hcs) hS (fun H1 locs1 hR1 hS1 => ?_)
  exact kk v p l e s m args below meth c Q h2 a h1 H1 locs1 ls hC e2 hR1 hS1 hl hq
theorem dn_callIN {idx n t : Nat} {y : MethodName} {cc2 : ByteArray} {nL2 : Nat} {rm2 : Room} {host : String} {em2 : γ → Option Value} {X : dnM γ} {f : γ → dnM β} {g : β → dnM α} {st0 : List Value} (As : List Value) (r : Option Nat) (hL : dnLIN own host idx n y cc2 nL2) (hM : dnMt w x b y cc2 nL2 none rm2 em2 (dnV b r :: As) X) (hst : st0 = As.reverse ++ dnV b r :: st) (hn : As.length = n) (hw : st.length ≤ 4) (hrm : rm2.frames + 1 ≤ rm.frames ∧ 8 + (nL2 + 11) + rm2.locals ≤ rm.locals) (hcs : cells + rm2.cells ≤ rm.cells ∧ slots + rm2.slots ≤ rm.slots) (hdg : decode cc pc = .ok (.invokespecial idx, 3))
    (kk : ∀ v, dnD w x b G cc own nL rm nm em (pc + 3) (cells + rm2.cells) (slots + rm2.slots) lv ((em2 v).toList ++ st) (dnB (f v) g)) : dnD w x b G cc own nL rm nm em pc cells slots lv st0 (dnB (dnB (dnCv r t X) f) g) := by
  subst hst
  intro p l e s m args below meth c Q h a h1 H locs ls hC hF hR hS hl hq
  obtain ⟨hx, hb, hml, hown, hts, hnm, hK, hX, hbs, hSt, hG⟩ := id hC
  rw [dnB_assoc] at hF
  obtain ⟨v, h2, e1, e2⟩ := dnB_inv hF
  obtain ⟨u, h3, e3, e4⟩ := dnB_inv e1
  obtain ⟨⟨a0, n0⟩, hat, he⟩ := Option.map_eq_some_iff.mp e3
  cases he
  obtain ⟨rfl, hq0⟩ := dnAt_inv hat
  obtain ⟨g1, g2, g4, g5, g7, g6⟩ := hL
  refine dn_ran (va_runIN (As := As) (rest := st) ⟨hx, hb, hml, hown, hts⟩ (hM l h v h2 e4) ⟨va_cnB n hts (dn_goodc g5) rfl rfl rfl (hSt.1 _ g1) (hts _ g4) g6 hrm, g7, hts _ g2⟩ ⟨dnRep.blind, fun U hU hW => ⟨rfl, hC.rep hR hS hU hW⟩⟩ rfl hn hl.1 rfl (lv_room (dn_room hw)) hdg hcs) hS (fun H1 locs1 hR1 hS1 => ?_)
  exact kk v p l e s m args below meth c Q h2 a h1 H1 locs1 ls hC e2 hR1 hS1 hl hq
end DN
