section DN
variable {w : dnWd} {x : dnX} {b : Nat} {G : State → Prop} {cc : ByteArray} {own : String} {nL : Nat} {rm : Room} {nm : String} {α β γ : Type} {em : α → Option Value} {pc cells slots : Nat} {lv : List (Nat × Value)} {st : List Value} {F : dnM α}
theorem dn_callV8 {idx n t : Nat} {y : MethodName} {cc2 : ByteArray} {nL2 : Nat} {rm2 : Room} {ret2 : Option FieldType} {em2 : γ → Option Value} {X : dnM γ} {f : γ → dnM β} {g : β → dnM α} {st0 : List Value} (As : List Value) (r : Option Nat) (hL : dnLV own idx n t y cc2 nL2 ret2) (hM : dnMt w x b y cc2 nL2 ret2 rm2 em2 (dnV b r :: As) X) (hst : st0 = As.reverse ++ dnV b r :: st) (hn : As.length = n) (hw : (st.map fun v => v.category).sum ≤ 8) (hrm : rm2.frames + 1 ≤ rm.frames ∧ 8 + (nL2 + 11) + rm2.locals ≤ rm.locals) (hcs : cells + rm2.cells ≤ rm.cells ∧ slots + rm2.slots ≤ rm.slots) (hdg : decode cc pc = .ok (.invokevirtual idx, 3))
    (kk : ∀ v, dnD w x b G cc own nL rm nm em (pc + 3) (cells + rm2.cells) (slots + rm2.slots) lv ((em2 v).toList ++ st) (dnB (f v) g)) : dnD w x b G cc own nL rm nm em pc cells slots lv st0 (dnB (dnB (dnCv r t X) f) g) := by
  subst hst
  intro p l e s m args below meth c Q h a h1 H locs ls hC hF hR hS hl hq
  obtain ⟨hx, hb, hml, hown, hts, hnm, hK, hX, hbs, hSt, hG⟩ := id hC
  rw [dnB_assoc] at hF
  obtain ⟨v, h2, e1, e2⟩ := dnB_inv hF
  obtain ⟨u, h3, e3, e4⟩ := dnB_inv e1
  obtain ⟨⟨a0, n0⟩, hat, he⟩ := Option.map_eq_some_iff.mp e3
  cases he
  obtain ⟨rfl, hq0⟩ := dnAt_inv hat
  obtain ⟨g1, g2, g3, g4, g5, g6, ht, q, hc, hcy⟩ := hL
  have hw0 := dnWs_get (w := w) (b := b) hq0
  rw [dnE_obj ht] at hw0
  have hrv := va_recv hK hR.2 hc hw0
  rw [hcy] at hrv
  have hG2 : GoodIn lw_ok (wsV own idx y.cls y (Cond.code y cc2 nL2 ret2 :: lw_ok)) := fun wd hwd => by
    unfold wsV at hwd
    rcases List.mem_append.mp hwd with h9 | h9
    · simp only [List.mem_cons, List.not_mem_nil, or_false] at h9
      rcases h9 with rfl | rfl | rfl | rfl <;> first | exact lw_good _ g1 | exact lw_good _ g2 | exact lw_good _ g3 | exact lw_good _ g4
    · exact dn_goodc g5 wd h9
  refine dn_ran (va_runV (As := As) (rest := st) ⟨hx, hb, hml, hown, hts⟩ (hM l h v h2 e4) (cwV n hts hG2 rfl rfl rfl ⟨rfl, g6⟩ hrm) ⟨dnRep.blind, hrv, fun U hU hW => ⟨rfl, hC.rep hR hS hU hW⟩⟩ rfl hn hl.1 rfl (lv_room hw) hdg hcs) hS (fun H1 locs1 hR1 hS1 => ?_)
  exact kk v p l e s m args below meth c Q h2 a h1 H1 locs1 ls hC e2 hR1 hS1 hl hq
theorem dn_callV8I {idx n t : Nat} {y : MethodName} {cc2 : ByteArray} {nL2 : Nat} {rm2 : Room} {ret2 : Option FieldType} {X : dnM Int32} {f : Int32 → dnM β} {g : β → dnM α} {st0 : List Value} (As : List Value) (r : Option Nat) (hL : dnLV own idx n t y cc2 nL2 ret2) (hM : dnMt w x b y cc2 nL2 ret2 rm2 (eI) (dnV b r :: As) X) (hst : st0 = As.reverse ++ dnV b r :: st) (hn : As.length = n) (hw : (st.map fun v => v.category).sum ≤ 8) (hrm : rm2.frames + 1 ≤ rm.frames ∧ 8 + (nL2 + 11) + rm2.locals ≤ rm.locals) (h0 : rm2.cells = 0 ∧ rm2.slots = 0 ∧ cells ≤ rm.cells ∧ slots ≤ rm.slots) (hdg : decode cc pc = .ok (.invokevirtual idx, 3))
    (kk : ∀ v : Int32, dnD w x b G cc own nL rm nm em (pc + 3) cells slots lv (.int v :: st) (dnB (f v) g)) : dnD w x b G cc own nL rm nm em pc cells slots lv st0 (dnB (dnB (dnCv r t X) f) g) :=
  dn_callV8 As r hL hM hst hn hw hrm (by rw [h0.1, h0.2.1]; exact h0.2.2) hdg (by rw [h0.1, h0.2.1]; exact kk)
end DN
theorem qo_1152 : lw_tbl[1152]? = some (Cond.methodLink "KindGrids" 294 ⟨"KindGrids$Step", "ordinal", "()I"⟩) := by decide +kernel
theorem qo_1153 : lw_tbl[1153]? = some (Cond.sameMethod "KindGrids$Step" "java/lang/Enum" "ordinal" "()I") := by decide +kernel
theorem qo_1155 : lw_tbl[1155]? = some (Cond.selects "KindGrids$Step" ⟨"KindGrids$Step", "ordinal", "()I"⟩ yJx29ce0_ordinal_8abf5) := by decide +kernel
theorem qo_1156 : lw_tbl[1156]? = some (Cond.instanceMethod yJx29ce0_ordinal_8abf5) := by decide +kernel
theorem qo_1157 : lw_tbl[1157]? = some (Cond.code yJx29ce0_ordinal_8abf5 cJx29ce0_ordinal_8abf5 1 (some .int)) := by decide +kernel
theorem kq_lk : Cond.methodLink "KindGrids" 294 ⟨"KindGrids$Step", "ordinal", "()I"⟩ ∈ lw_ok := (lw_okof 1152 qo_1152 rfl)
theorem kq_sm : Cond.sameMethod "KindGrids$Step" "java/lang/Enum" "ordinal" "()I" ∈ lw_ok := (lw_okof 1153 qo_1153 rfl)
theorem kq_sl : Cond.selects "KindGrids$Step" ⟨"KindGrids$Step", "ordinal", "()I"⟩ yJx29ce0_ordinal_8abf5 ∈ lw_ok := (lw_okof 1155 qo_1155 rfl)
theorem kq_im : Cond.instanceMethod yJx29ce0_ordinal_8abf5 ∈ lw_ok := (lw_okof 1156 qo_1156 rfl)
theorem kq_cd : Cond.code yJx29ce0_ordinal_8abf5 cJx29ce0_ordinal_8abf5 1 (some .int) ∈ lw_ok := (lw_okof 1157 qo_1157 rfl)
theorem kq_pd : (parseMethodDescriptor "()I").map (fun d => d.parameters.length) = some 0 := by decide +kernel
set_option maxHeartbeats 4000000 in
/-- the call of ordinal(): its class is of no word 'initialized', so it goes by the getter's own law -/
theorem dn_backOrd {p : Program} {l : Launch} {e : Env} {R : Room} {s : State} {args : Array Value} {below : List Frame} {H : Heap} {locs : List Loc} {cells slots : Nat} {qa : Nat} {v : Int32} {x : dnX} {b : Nat}
    (hx : p.tables.exec = Jvm.exec) (hts : ∀ wd ∈ lw_ok, wd.before args s = true) (hOF : va_OF "java/lang/Enum" "ordinal" "I" (.int v) qa (fun q => b ≤ q) s H) (hfr : 1 ≤ R.frames) (hlo : 20 ≤ R.locals) (hc : cells ≤ R.cells) (hs : slots ≤ R.slots) :
    Back l R p e below s args yJx29ce0_ordinal_8abf5 3 8 (fun A a => a = #[.ref qa] ∧ A.U.heap = H ∧ A.locs = locs ∧ A.cells = cells ∧ A.slots = slots) (fun A a w B => w = some (.int v) ∧ B.U.heap = H ∧ B.locs = locs ∧ B.cells = cells ∧ B.slots = slots) := by
  intro m meth c A g ig mk a X hg hsize hdg hW hn hp
  obtain ⟨U, Ls, c0, s0⟩ := A
  dsimp only [Pt.U, Pt.locs, Pt.cells, Pt.slots] at X hn hp ⊢
  obtain ⟨rfl, hh, rfl, rfl, rfl⟩ := hp
  have hw : ∀ wd ∈ lw_ok, wd.before #[Value.ref qa] U = true := fun wd h => word_at X.warmed (good_of_word (List.mem_filter.mp h).2) (hts wd h)
  obtain ⟨methY, cY, hmY, hcY, hbY, hlY, hrY, hkY, -, -⟩ := Cond.code_spec hn (hw _ kq_cd)
  have hplain := State.plainMethod.of_named (s := U) (x := yJx29ce0_ordinal_8abf5) (by decide +kernel) hn hmY
  have hOF := hOF.moved X.warmed.alike
  obtain ⟨cf, k, i, f, cell, hi, hst, hcell, hknown, hslot, -⟩ := hOF
  have hownE : U.vm.findClass "java/lang/Enum" = some mk.cls := findClass_of_methodNamed hn
  have hpl : e.platform.magicAccessors = ({} : Platform).magicAccessors := by rw [X.admits.platform]
  obtain ⟨ci', cfl, k', i', f', hi', hlinks, hright⟩ := Cond.fieldLink_spec hownE (hw _ kf_ord) e.platform hpl
  cases hi.symm.trans hi'
  obtain ⟨hk, hf⟩ := State.fieldFound?_spec hi
  obtain ⟨vm', hgives, hW', hready, hfi⟩ := State.fieldEntry (e := e) (State.WarmedH.refl U) hlinks hright hk hf
  have hroom : (U.calling g mk #[Value.ref qa]).hasRoom e.platform {} = true := X.room_calling (g := g) (R' := {}) hsize hmY hcY (by show 0 + 1 ≤ R.frames; omega) (by rw [hlY]; show _ + (1 + 11) + 0 ≤ R.locals; omega) (by show c0 + 0 ≤ R.cells; omega) (by show s0 + 0 ≤ R.slots; omega)
  have hAt : At U g.method c below := by rw [hg]; exact X.here
  obtain ⟨g₀, hg0⟩ := Option.isSome_iff_exists.mp hAt.top
  obtain ⟨r, hr0⟩ := State.topJava?_eq_some.mp hg0
  obtain ⟨th, ht0, -⟩ := State.frames_cons hr0
  have hcur : (U.setTop g).cur < (U.setTop g).threads.size := State.cur_lt_of_frames (State.frames_setTop' g hAt.top)
  obtain ⟨th1, ht1⟩ : ∃ t, (U.setTop g).threads[(U.setTop g).cur]? = some t := ⟨_, Array.getElem?_eq_getElem hcur⟩
  have hf' : (U.calling g mk #[Value.ref qa]).frames = .invoking mk #[Value.ref qa] :: (U.setTop g).frames := State.frames_setFrames _ hcur
  have hself : (U.calling g mk #[Value.ref qa]).setFrames (U.setTop g).frames = U.setTop g := by
    show ((U.setTop g).pushFrame (.invoking mk #[Value.ref qa])).setFrames (U.setTop g).frames = _
    rw [State.pushFrame, State.setFrames_setFrames, State.setFrames_self ht1]
  have hfull : e.platform.stackFull ((U.calling g mk #[Value.ref qa]).setFrames (U.setTop g).frames).me ((U.calling g mk #[Value.ref qa]).setFrames (U.setTop g).frames).frames cY.maxLocals = false := by
    obtain ⟨-, h1, -, h2⟩ := State.hasRoom_stack hroom
    rw [hf', List.length_cons] at h1
    rw [State.localsInUse_invoking hf' hmY hcY] at h2
    have hw2 := stackUse_le_stackWeight (U.setTop g).frames
    rw [hself]
    rw [show (U.setTop g).me = ((U.calling g mk #[Value.ref qa]).setFrames (U.setTop g).frames).me by rw [hself]]
    exact Platform.stackFull_eq_false (by rw [State.stackLimits_setFrames]; omega) (by rw [State.stackLimits_setFrames]; omega)
  rw [hself] at hfull
  refine ⟨some (.int v), ⟨U.setVm vm', Ls, c0, s0⟩, X.noted (State.WarmedH.trans X.warmed hW'), ⟨rfl, hh, rfl, rfl, rfl⟩, ?_⟩
  refine Steps.intGetterInline (index := 7) hAt hx [] hmY hcY hkY hplain hrY hlY (by rw [hbY]; exact dJx29ce0_ordinal_8abf5_0) (by rw [hbY]; exact dJx29ce0_ordinal_8abf5_1) (by rw [hbY]; exact dJx29ce0_ordinal_8abf5_4) hfull hdg hW'.alike hgives hready hfi hst (by rw [hh]; exact hcell) hknown hslot (Steps.refl _)
set_option maxHeartbeats 4000000 in
theorem dn_callOrd {w : dnWd} {x : dnX} {b : Nat} {G : State → Prop} {cc : ByteArray} {nL : Nat} {rm : Room} {nm : String} {α β : Type} {em : α → Option Value} {pc cells slots : Nat} {lv : List (Nat × Value)} {st : List Value} {k : Nat} {f : Unit → dnM β} {g : β → dnM α} (hw : st.length ≤ 4) (hrm : 1 ≤ rm.frames ∧ 20 ≤ rm.locals) (h0 : cells ≤ rm.cells ∧ slots ≤ rm.slots) (hdg : decode cc pc = .ok (.invokevirtual 294, 3))
    (kk : dnD w x b G cc RX12 nL rm nm em (pc + 3) cells slots lv (.int (Int32.ofNat k) :: st) (dnB (f ()) g)) : dnD w x b G cc RX12 nL rm nm em pc cells slots lv (.ref (dnAS x k) :: st) (dnB (dnB (dnSk k) f) g) := by
  intro p l e s m args below meth c Q h a h1 H locs ls hC hF hR hS hl hq
  obtain ⟨hx, hb, hml, hown, hts, hnm, hK, hX, hbs, hSt, hG⟩ := id hC
  rw [dnB_assoc] at hF
  obtain ⟨v, h2, e1, e2⟩ := dnB_inv hF
  have hk := dnSk_lt e1
  have eh : h2 = h := by
    unfold dnSk at e1
    rw [if_pos hk] at e1
    cases e1
    rfl
  subst eh
  obtain ⟨cellB, hcB, hoB, hclB⟩ := dnX_rvE hk s H locs hX hS
  have hOF := (dnX_ord hk s s.heap hX).kept (H1 := H) (fun a g1 g2 => hS.2.1 a g1 g2)
  intro T hT X
  obtain ⟨v1, vm₁, ⟨U', l2, c2, s2⟩, hW₁, X', ⟨e3, e4, e5, e6, e7⟩, stp⟩ := va_callVU X hx (C := "KindGrids$Step") (owner := "java/lang/Enum") (bytes := cJx29ce0_ordinal_8abf5) (maxL := 1) (ret := some .int) hown (hts _ kq_lk) (hts _ kq_sm) (va_Decl.of (hts _ kq_im) (hts _ kq_cd)) (by decide +kernel) (hts _ kq_sl) (hts _ kq_im) (hts _ kq_cd)
    (dn_backOrd (H := H) (locs := locs) (cells := cells) (slots := slots) (x := x) (b := b) hx hts hOF hrm.1 hrm.2 h0.1 h0.2) (by rw [hT]; exact hcB) hoB hclB (g := F0 m pc ls (.ref (dnAS x k) :: st)) rfl (hl.1.trans hml.symm) (argsL := []) (rest := st) (fun sig h9 => by have := kq_pd; rw [h9] at this; exact (Option.some.inj this).symm) rfl (lv_room (dn_room hw)) (by rw [hb]; exact hdg) (fun vm₂ hW₂ => ⟨rfl, hT, rfl, rfl, rfl⟩)
  dsimp only [Pt.U, Pt.locs, Pt.cells, Pt.slots] at e4 e5 e6 e7 X' stp
  subst e5
  subst e6
  subst e7
  subst e3
  obtain ⟨t2, a1, b1⟩ := kk p l e s m args below meth c Q h2 a h1 H l2 ls hC e2 hR hS hl hq U' e4 X'
  exact ⟨t2, stp t2 a1, b1⟩
