section DN
variable {w : dnWd} {x : dnX} {b : Nat} {G : State → Prop} {cc : ByteArray} {own : String} {nL : Nat} {rm : Room} {nm : String} {α β γ : Type} {em : α → Option Value} {pc cells slots : Nat} {lv : List (Nat × Value)} {st : List Value} {F : dnM α}
theorem dn_callV8 {idx n t : Nat} {y : MethodName} {cc2 : ByteArray} {nL2 : Nat} {rm2 : Room} {ret2 : Option FieldType} {em2 : γ → Option Value} {X : dnM γ} {f : γ → dnM β} {g : β → dnM α} {st0 : List Value} (As : List Value) (r : Option Nat) (hL : dnLV own idx n t y cc2 nL2 ret2) (hM : dnMt w x b y cc2 nL2 ret2 rm2 em2 (dnV b r :: As) X) (hst : st0 = As.reverse ++ dnV b r :: st) (hn : As.length = n) (hw : (st.map fun v => v.category).sum ≤ 8) (hrm : rm2.frames + 1 ≤ rm.frames ∧ 8 + (nL2 + 11) + rm2.locals ≤ rm.locals) (hcs : cells + rm2.cells ≤ rm.cells ∧ slots + rm2.slots ≤ rm.slots) (hdg : decode cc pc = .ok (.invokevirtual idx, 3))
    (kk : ∀ v, dnD w x b G cc own nL rm nm em (pc + 3) (cells + rm2.cells) (slots + rm2.slots) lv ((em2 v).toList ++ st) (dnB (f v) g)) : dnD w x b G cc own nL rm nm em pc cells slots lv st0 (dnB (dnB (dnCv r t X) f) g) := by
  subst hst
  intro p l e s m args below meth c Q h a h1 H locs ls hC hF hR hS hl hq
  obtain ⟨hx, hb, hml, hown, hts, hnm, hK, hX, hbs, hSt, hG⟩ := id hC
  rw [dnB_assoc] at hF
  obtain ⟨v, h2, e1, e2⟩ := dnB_inv hF
  obtain ⟨u, h3, e3, e4⟩ := dnB_inv e1
  obtain ⟨⟨a0, n0⟩, hat, he⟩ := Option.map_eq_some_iff.mp e3
  cases he
  obtain ⟨rfl, hq0⟩ := dnAt_inv hat
  obtain ⟨g1, g2, g3, g4, g5, g6, ht, q, hc, hcy⟩ := hL
  have hw0 := dnWs_get (w := w) (b := b) hq0
  rw [dnE_obj ht] at hw0
  have hrv := va_recv hK hR.2 hc hw0
  rw [hcy] at hrv
  have hG2 : GoodIn lw_ok (wsV own idx y.cls y (Cond.code y cc2 nL2 ret2 :: lw_ok)) := fun wd hwd => by
    unfold wsV at hwd
    rcases List.mem_append.mp hwd with h9 | h9
    · simp only [List.mem_cons, List.not_mem_nil, or_false] at h9
      rcases h9 with rfl | rfl | rfl | rfl <;> first | exact lw_good _ g1 | exact lw_good _ g2 | exact lw_good _ g3 | exact lw_good _ g4
    · exact dn_goodc g5 wd h9
  refine dn_ran (va_runV (As := As) (rest := st) ⟨hx, hb, hml, hown, hts⟩ (hM l h v h2 e4) (cwV n hts hG2 rfl rfl rfl ⟨rfl, g6⟩ hrm) ⟨dnRep.blind, hrv, fun U hU hW => ⟨rfl, hC.rep hR hS hU hW⟩⟩ rfl hn hl.1 rfl (lv_room hw) hdg hcs) hS (fun H1 locs1 hR1 hS1 => ?_)
  exact kk v p l e s m args below meth c Q h2 a h1 H1 locs1 ls hC e2 hR1 hS1 hl hq
theorem dn_callV8I {idx n t : Nat} {y : MethodName} {cc2 : ByteArray} {nL2 : Nat} {rm2 : Room} {ret2 : Option FieldType} {X : dnM Int32} {f : Int32 → dnM β} {g : β → dnM α} {st0 : List Value} (As : List Value) (r : Option Nat) (hL : dnLV own idx n t y cc2 nL2 ret2) (hM : dnMt w x b y cc2 nL2 ret2 rm2 (eI) (dnV b r :: As) X) (hst : st0 = As.reverse ++ dnV b r :: st) (hn : As.length = n) (hw : (st.map fun v => v.category).sum ≤ 8) (hrm : rm2.frames + 1 ≤ rm.frames ∧ 8 + (nL2 + 11) + rm2.locals ≤ rm.locals) (h0 : rm2.cells = 0 ∧ rm2.slots = 0 ∧ cells ≤ rm.cells ∧ slots ≤ rm.slots) (hdg : decode cc pc = .ok (.invokevirtual idx, 3))
    (kk : ∀ v : Int32, dnD w x b G cc own nL rm nm em (pc + 3) cells slots lv (.int v :: st) (dnB (f v) g)) : dnD w x b G cc own nL rm nm em pc cells slots lv st0 (dnB (dnB (dnCv r t X) f) g) :=
  dn_callV8 As r hL hM hst hn hw hrm (by rw [h0.1, h0.2.1]; exact h0.2.2) hdg (by rw [h0.1, h0.2.1]; exact kk)
end DN
theorem dn_callOrd {w : dnWd} {x : dnX} {b : Nat} {G : State → Prop} {cc : ByteArray} {nL : Nat} {rm : Room} {nm : String} {α β : Type} {em : α → Option Value} {pc cells slots : Nat} {lv : List (Nat × Value)} {st : List Value} {k : Nat} {f : Unit → dnM β} {g : β → dnM α} (hw : st.length ≤ 4) (hrm : 1 ≤ rm.frames ∧ 20 ≤ rm.locals) (h0 : cells ≤ rm.cells ∧ slots ≤ rm.slots) (hdg : decode cc pc = .ok (.invokevirtual 294, 3))
    (kk : dnD w x b G cc RX12 nL rm nm em (pc + 3) cells slots lv (.int (Int32.ofNat k) :: st) (dnB (f ()) g)) : dnD w x b G cc RX12 nL rm nm em pc cells slots lv (.ref (dnAS x k) :: st) (dnB (dnB (dnSk k) f) g) := by
  sorry
