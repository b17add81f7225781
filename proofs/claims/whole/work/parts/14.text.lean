theorem qt_119 : lw_tbl[119]? = some (Cond.initialized "java/lang/String") := by decide +kernel
theorem qt_120 : lw_tbl[120]? = some (Cond.initialized "java/lang/StringLatin1") := by decide +kernel
theorem qt_121 : lw_tbl[121]? = some (Cond.initialized "jdk/internal/util/Preconditions") := by decide +kernel
theorem qt_1070 : lw_tbl[1070]? = some (Cond.fieldLinkNest "KindGrids$PlanText" 26 "KindGrids" "WORDS" "[LKindGrids$Step;" "KindGrids") := by decide +kernel
theorem qt_1072 : lw_tbl[1072]? = some (Cond.methodLink "KindGrids$PlanText" 55 yJ0_length_8abf5) := by decide +kernel
theorem qt_1073 : lw_tbl[1073]? = some (Cond.instanceMethod yJ0_length_8abf5) := by decide +kernel
theorem qt_1074 : lw_tbl[1074]? = some (Cond.selects "java/lang/String" yJ0_length_8abf5 yJ0_length_8abf5) := by decide +kernel
theorem qt_1075 : lw_tbl[1075]? = some (Cond.code yJ0_length_8abf5 cJ0_length_8abf5 1 (some .int)) := by decide +kernel
theorem qt_1076 : lw_tbl[1076]? = some (Cond.methodLink "java/lang/String" 335 yJ0_coder_7d493) := by decide +kernel
theorem qt_1077 : lw_tbl[1077]? = some (Cond.instanceMethod yJ0_coder_7d493) := by decide +kernel
theorem qt_1078 : lw_tbl[1078]? = some (Cond.selects "java/lang/String" yJ0_coder_7d493 yJ0_coder_7d493) := by decide +kernel
theorem qt_1079 : lw_tbl[1079]? = some (Cond.code yJ0_coder_7d493 cJ0_coder_7d493 1 (some .byte)) := by decide +kernel
theorem qt_1080 : lw_tbl[1080]? = some (Cond.fieldLink "java/lang/String" 38 "java/lang/String" "COMPACT_STRINGS" "Z") := by decide +kernel
theorem qt_1086 : lw_tbl[1086]? = some (Cond.methodLink "KindGrids$PlanText" 64 yJ0_charAt_5068e) := by decide +kernel
theorem qt_1087 : lw_tbl[1087]? = some (Cond.instanceMethod yJ0_charAt_5068e) := by decide +kernel
theorem qt_1088 : lw_tbl[1088]? = some (Cond.selects "java/lang/String" yJ0_charAt_5068e yJ0_charAt_5068e) := by decide +kernel
theorem qt_1089 : lw_tbl[1089]? = some (Cond.code yJ0_charAt_5068e cJ0_charAt_5068e 2 (some .char)) := by decide +kernel
theorem qt_1090 : lw_tbl[1090]? = some (Cond.methodLink "java/lang/String" 492 yJ0_isLatin1_aae02) := by decide +kernel
theorem qt_1091 : lw_tbl[1091]? = some (Cond.instanceMethod yJ0_isLatin1_aae02) := by decide +kernel
theorem qt_1092 : lw_tbl[1092]? = some (Cond.selects "java/lang/String" yJ0_isLatin1_aae02 yJ0_isLatin1_aae02) := by decide +kernel
theorem qt_1093 : lw_tbl[1093]? = some (Cond.code yJ0_isLatin1_aae02 cJ0_isLatin1_aae02 1 (some .boolean)) := by decide +kernel
theorem qt_1094 : lw_tbl[1094]? = some (Cond.methodLink "java/lang/String" 495 yJ1_charAt_3b067) := by decide +kernel
theorem qt_1095 : lw_tbl[1095]? = some (Cond.static yJ1_charAt_3b067) := by decide +kernel
theorem qt_1096 : lw_tbl[1096]? = some (Cond.code yJ1_charAt_3b067 cJ1_charAt_3b067 2 (some .char)) := by decide +kernel
theorem qt_1097 : lw_tbl[1097]? = some (Cond.methodLink "java/lang/StringLatin1" 9 yJ0_checkIndex_df160) := by decide +kernel
theorem qt_1098 : lw_tbl[1098]? = some (Cond.static yJ0_checkIndex_df160) := by decide +kernel
theorem qt_1099 : lw_tbl[1099]? = some (Cond.code yJ0_checkIndex_df160 cJ0_checkIndex_df160 2 none) := by decide +kernel
theorem qt_1100 : lw_tbl[1100]? = some (Cond.fieldLink "java/lang/String" 1053 "jdk/internal/util/Preconditions" "SIOOBE_FORMATTER" "Ljava/util/function/BiFunction;") := by decide +kernel
theorem qt_1102 : lw_tbl[1102]? = some (Cond.methodLink "java/lang/String" 1059 yJ3_checkIndex_8e157) := by decide +kernel
theorem qt_1103 : lw_tbl[1103]? = some (Cond.static yJ3_checkIndex_8e157) := by decide +kernel
theorem qt_1104 : lw_tbl[1104]? = some (Cond.code yJ3_checkIndex_8e157 cJ3_checkIndex_8e157 3 (some .int)) := by decide +kernel
theorem qt_1146 : lw_tbl[1146]? = some (Cond.fieldLink "KindGrids" 285 "KindGrids$1" "$SwitchMap$KindGrids$Step" "[I") := by decide +kernel
theorem qt_1152 : lw_tbl[1152]? = some (Cond.methodLink "KindGrids" 294 ⟨"KindGrids$Step", "ordinal", "()I"⟩) := by decide +kernel
theorem qt_1153 : lw_tbl[1153]? = some (Cond.sameMethod "KindGrids$Step" "java/lang/Enum" "ordinal" "()I") := by decide +kernel
theorem qt_1155 : lw_tbl[1155]? = some (Cond.selects "KindGrids$Step" ⟨"KindGrids$Step", "ordinal", "()I"⟩ yJx29ce0_ordinal_8abf5) := by decide +kernel
theorem qt_1156 : lw_tbl[1156]? = some (Cond.instanceMethod yJx29ce0_ordinal_8abf5) := by decide +kernel
theorem qt_1157 : lw_tbl[1157]? = some (Cond.code yJx29ce0_ordinal_8abf5 cJx29ce0_ordinal_8abf5 1 (some .int)) := by decide +kernel
theorem qt_2122 : lw_tbl[2122]? = some (Cond.fieldLink "KindGrids$PlanText" 51 "KindGrids$Step" "word" "Ljava/lang/String;") := by decide +kernel
theorem qt_2123 : lw_tbl[2123]? = some (Cond.fieldLink "java/lang/String" 9 "java/lang/String" "value" "[B") := by decide +kernel
theorem qt_2124 : lw_tbl[2124]? = some (Cond.fieldLink "java/lang/String" 15 "java/lang/String" "coder" "B") := by decide +kernel
theorem qt_2125 : lw_tbl[2125]? = some (Cond.fieldLink "KindGrids$PlanText" 40 "KindGrids$Step" "numbers" "I") := by decide +kernel
theorem qt_2126 : lw_tbl[2126]? = some (Cond.fieldLink "java/lang/Enum" 7 "java/lang/Enum" "ordinal" "I") := by decide +kernel
/-! TEXT: the words of a plan, which stand outside -/
section DN
variable {w : dnWd} {x : dnX} {b : Nat} {G : State → Prop} {cc : ByteArray} {own : String} {nL : Nat} {rm : Room} {nm : String} {α β γ : Type} {em : α → Option Value} {pc cells slots : Nat} {lv : List (Nat × Value)} {st : List Value} {F : dnM α}
abbrev dnAS (x : dnX) (k : Nat) : Nat := x.2.2.2.1 k
abbrev dnAK (x : dnX) (k : Nat) : Nat := x.2.2.2.2.1 k
abbrev dnAV (x : dnX) (k : Nat) : Nat := x.2.2.2.2.2 k
def dnWl (k : Nat) : Nat := (dnWrd.map List.length).getD k 0
/-- there is such a word -/
def dnSk (k : Nat) : dnM Unit := fun h => if k < 14 then some ((), h) else none
/-- and it has such a letter -/
def dnSc (k : Nat) (i : Int32) : dnM Unit := fun h => if k < 14 ∧ dnIn i (dnWl k) = true then some ((), h) else none
def dnXW (i : Int32) : dnM Nat := fun h => if dnIn i 14 then some (i.toNatClampNeg, h) else none
def dnXs (i : Int32) : dnM Int32 := fun h => if dnIn i 14 then some (dnSw i.toNatClampNeg, h) else none
def dnBy (k : Nat) (i : Int32) : Int32 := (dnWrd.getD k []).getD i.toNatClampNeg 0
def dnLen (k : Nat) : Int32 := Int32.ofNat (dnWl k) >>> ((0 : Int32) &&& 31)
def dnChr (k : Nat) (i : Int32) : Int32 := ((dnBy k i &&& 255).toUInt32 % 65536).toInt32
theorem dn_none {g : β → dnM α} : dnD w x b G cc own nL rm nm em pc cells slots lv st (dnB (fun _ => none) g) := by
  intro p l e s m args below meth c Q h a h1 H locs ls hC hF
  cases hF
theorem dn_Sk {f : Unit → dnM β} {g : β → dnM α} {k : Nat} (kk : k < 14 → dnD w x b G cc own nL rm nm em pc cells slots lv st (dnB (f ()) g)) : dnD w x b G cc own nL rm nm em pc cells slots lv st (dnB (dnB (dnSk k) f) g) := by
  intro p l e s m args below meth c Q h a h1 H locs ls hC hF hR hS hl hq
  rw [dnB_assoc] at hF
  obtain ⟨v, h2, e1, e2⟩ := dnB_inv hF
  unfold dnSk at e1
  split at e1
  · rename_i hk
    cases e1
    exact kk hk p l e s m args below meth c Q h a h1 H locs ls hC e2 hR hS hl hq
  · cases e1
theorem dn_Sc {f : Unit → dnM β} {g : β → dnM α} {k : Nat} {i : Int32} (kk : k < 14 → dnIn i (dnWl k) = true → dnD w x b G cc own nL rm nm em pc cells slots lv st (dnB (f ()) g)) : dnD w x b G cc own nL rm nm em pc cells slots lv st (dnB (dnB (dnSc k i) f) g) := by
  intro p l e s m args below meth c Q h a h1 H locs ls hC hF hR hS hl hq
  rw [dnB_assoc] at hF
  obtain ⟨v, h2, e1, e2⟩ := dnB_inv hF
  unfold dnSc at e1
  split at e1
  · rename_i hk
    cases e1
    exact kk hk.1 hk.2 p l e s m args below meth c Q h a h1 H locs ls hC e2 hR hS hl hq
  · cases e1
theorem dn_getOF {o n d : String} {idx q : Nat} {v : Value} (hE : ∀ U H, dnExt x b U H → va_OF o n d v q (fun q => b ≤ q) U H) (hlk : Cond.fieldLink own idx o n d ∈ lw_ok) (hdg : decode cc pc = .ok (.getfield idx, 3)) (k : dnD w x b G cc own nL rm nm em (pc + 3) cells slots lv (v :: st) F) : dnD w x b G cc own nL rm nm em pc cells slots lv (.ref q :: st) F := by
  intro p l e s m args below meth c Q h a h1 H locs ls hC hF hR hS hl hq
  obtain ⟨hx, hb, hml, hown, hts, hnm, hK, hX, hbs, hSt, hG⟩ := id hC
  exact vk_getf hx hb (hE _ _ hX) hS hown (hts _ hlk) (fun _ h9 => h9) hdg (k p l e s m args below meth c Q h a h1 H locs ls hC hF hR hS hl hq)
theorem dn_gets {C n d : String} {idx : Nat} {v : Value} (hE : ∀ U H, dnExt x b U H → va_Z C n d v (fun q => b ≤ q) U H) (hlk : Cond.fieldLink own idx C n d ∈ lw_ok) (hdg : decode cc pc = .ok (.getstatic idx, 3)) (k : dnD w x b G cc own nL rm nm em (pc + 3) cells slots lv (v :: st) F) : dnD w x b G cc own nL rm nm em pc cells slots lv st F := by
  intro p l e s m args below meth c Q h a h1 H locs ls hC hF hR hS hl hq
  obtain ⟨hx, hb, hml, hown, hts, hnm, hK, hX, hbs, hSt, hG⟩ := id hC
  exact va_gets hx hb (hE _ _ hX) hS hown (hts _ hlk) (fun _ h9 => h9) hdg (k p l e s m args below meth c Q h a h1 H locs ls hC hF hR hS hl hq)
theorem dn_getsN {C n d host : String} {idx : Nat} {v : Value} (hE : ∀ U H, dnExt x b U H → va_Z C n d v (fun q => b ≤ q) U H) (hlk : Cond.fieldLinkNest own idx C n d host ∈ lw_nest) (hdg : decode cc pc = .ok (.getstatic idx, 3)) (k : dnD w x b G cc own nL rm nm em (pc + 3) cells slots lv (v :: st) F) : dnD w x b G cc own nL rm nm em pc cells slots lv st F := by
  intro p l e s m args below meth c Q h a h1 H locs ls hC hF hR hS hl hq
  obtain ⟨hx, hb, hml, hown, hts, hnm, hK, hX, hbs, hSt, hG⟩ := id hC
  exact va_getsN hx hb (hE _ _ hX) hS hown ((hSt.1 _ hlk).use rfl) (fun _ h9 => h9) hdg (k p l e s m args below meth c Q h a h1 H locs ls hC hF hR hS hl hq)
theorem dn_getsQ {C n d : String} {idx : Nat} (hE : ∀ U H, dnExt x b U H → va_Zq C n d (fun q => b ≤ q) U H) (hlk : Cond.fieldLink own idx C n d ∈ lw_ok) (hdg : decode cc pc = .ok (.getstatic idx, 3)) (k : ∀ v : Value, (v = .null ∨ ∃ a, v = .ref a) → dnD w x b G cc own nL rm nm em (pc + 3) cells slots lv (v :: st) F) : dnD w x b G cc own nL rm nm em pc cells slots lv st F := by
  intro p l e s m args below meth c Q h a h1 H locs ls hC hF hR hS hl hq
  obtain ⟨hx, hb, hml, hown, hts, hnm, hK, hX, hbs, hSt, hG⟩ := id hC
  rcases hE _ _ hX with hz | ⟨t, hz⟩
  · exact va_gets hx hb hz hS hown (hts _ hlk) (fun _ h9 => h9) hdg (k _ (Or.inl rfl) p l e s m args below meth c Q h a h1 H locs ls hC hF hR hS hl hq)
  · exact va_gets hx hb hz hS hown (hts _ hlk) (fun _ h9 => h9) hdg (k _ (Or.inr ⟨_, rfl⟩) p l e s m args below meth c Q h a h1 H locs ls hC hF hR hS hl hq)
theorem dn_tlen {ty : FieldType} {t N : Nat} {f : Nat → Value} (hE : ∀ U H, dnExt x b U H → va_T ty t N f (fun q => b ≤ q) U H) (hdg : decode cc pc = .ok (.arraylength, 1)) (k : dnD w x b G cc own nL rm nm em (pc + 1) cells slots lv (.int (Int32.ofNat N) :: st) F) : dnD w x b G cc own nL rm nm em pc cells slots lv (.ref t :: st) F := by
  intro p l e s m args below meth c Q h a h1 H locs ls hC hF hR hS hl hq
  obtain ⟨hx, hb, hml, hown, hts, hnm, hK, hX, hbs, hSt, hG⟩ := id hC
  exact va_tlen hx hb (hE _ _ hX) hS rfl hdg (k p l e s m args below meth c Q h a h1 H locs ls hC hF hR hS hl hq)
theorem dn_tb {t N : Nat} {f : Nat → Value} {i : Int32} (hE : ∀ U H, dnExt x b U H → va_T .byte t N f (fun q => b ≤ q) U H) (hin : dnIn i N = true) (hdg : decode cc pc = .ok (.baload, 1)) (k : dnD w x b G cc own nL rm nm em (pc + 1) cells slots lv (f i.toNatClampNeg :: st) F) : dnD w x b G cc own nL rm nm em pc cells slots lv (.int i :: .ref t :: st) F := by
  intro p l e s m args below meth c Q h a h1 H locs ls hC hF hR hS hl hq
  obtain ⟨hx, hb, hml, hown, hts, hnm, hK, hX, hbs, hSt, hG⟩ := id hC
  exact va_tb hx hb (hE _ _ hX) hS (dnIn_vp hin) rfl hdg (k p l e s m args below meth c Q h a h1 H locs ls hC hF hR hS hl hq)
theorem dn_aaldX {i : Int32} {f : Nat → dnM β} {g : β → dnM α} (hdg : decode cc pc = .ok (.aaload, 1)) (kk : ∀ v, dnD w x b G cc own nL rm nm em (pc + 1) cells slots lv (.ref (dnAS x v) :: st) (dnB (f v) g)) : dnD w x b G cc own nL rm nm em pc cells slots lv (.int i :: .ref x.2.1 :: st) (dnB (dnB (dnXW i) f) g) := by
  intro p l e s m args below meth c Q h a h1 H locs ls hC hF hR hS hl hq
  obtain ⟨hx, hb, hml, hown, hts, hnm, hK, hX, hbs, hSt, hG⟩ := id hC
  rw [dnB_assoc] at hF
  obtain ⟨v, h2, e1, e2⟩ := dnB_inv hF
  unfold dnXW at e1
  split at e1
  · rename_i hin
    cases e1
    exact vb_tq hx hb hX.2.1.2 hS (dnIn_vp hin) rfl hdg (kk _ p l e s m args below meth c Q h a h1 H locs ls hC e2 hR hS hl hq)
  · cases e1
theorem dn_ialdX {i : Int32} {f : Int32 → dnM β} {g : β → dnM α} (hdg : decode cc pc = .ok (.iaload, 1)) (kk : ∀ v, dnD w x b G cc own nL rm nm em (pc + 1) cells slots lv (.int v :: st) (dnB (f v) g)) : dnD w x b G cc own nL rm nm em pc cells slots lv (.int i :: .ref x.2.2.1 :: st) (dnB (dnB (dnXs i) f) g) := by
  intro p l e s m args below meth c Q h a h1 H locs ls hC hF hR hS hl hq
  obtain ⟨hx, hb, hml, hown, hts, hnm, hK, hX, hbs, hSt, hG⟩ := id hC
  rw [dnB_assoc] at hF
  obtain ⟨v, h2, e1, e2⟩ := dnB_inv hF
  unfold dnXs at e1
  split at e1
  · rename_i hin
    cases e1
    exact va_ti hx hb hX.2.2.1.2 hS (dnIn_vp hin) rfl hdg (kk _ p l e s m args below meth c Q h a h1 H locs ls hC e2 hR hS hl hq)
  · cases e1
def dnLX (own : String) (idx n : Nat) (y : MethodName) (cc : ByteArray) (nL : Nat) (ret : Option FieldType) : Prop := Cond.methodLink own idx y ∈ lw_ok ∧ Cond.instanceMethod y ∈ lw_ok ∧ Cond.selects y.cls y y ∈ lw_ok ∧ Cond.initialized y.cls ∈ lw_ok ∧ Cond.code y cc nL ret ∈ lw_ok ∧ (y.cls ≠ "java/lang/invoke/MethodHandle" ∧ y.cls ≠ "java/lang/invoke/VarHandle" ∧ (parseMethodDescriptor y.desc).map (fun d => d.parameters.length) = some n)
/-- a call on what stands outside -/
theorem dn_callX {idx n q : Nat} {y : MethodName} {cc2 : ByteArray} {nL2 : Nat} {rm2 : Room} {ret2 : Option FieldType} {em2 : γ → Option Value} {X : dnM γ} {f : γ → dnM β} {g : β → dnM α} {st0 : List Value} (As : List Value) (hL : dnLX own idx n y cc2 nL2 ret2) (hM : dnMt w x b y cc2 nL2 ret2 rm2 em2 (.ref q :: As) X)
    (hrv : ∀ h v h2, X h = some (v, h2) → ∀ s H locs, dnExt x b s s.heap → va_S (fun q => b ≤ q) s.heap H locs → ∃ cell : Cell, H[q]? = some cell ∧ cell.vm.isStatics = false ∧ s.vm.findClass y.cls = some cell.cls)
    (hst : st0 = As.reverse ++ .ref q :: st) (hn : As.length = n) (hw : st.length ≤ 4) (hrm : rm2.frames + 1 ≤ rm.frames ∧ 8 + (nL2 + 11) + rm2.locals ≤ rm.locals) (h0 : rm2.cells = 0 ∧ rm2.slots = 0 ∧ cells ≤ rm.cells ∧ slots ≤ rm.slots) (hdg : decode cc pc = .ok (.invokevirtual idx, 3))
    (kk : ∀ v, dnD w x b G cc own nL rm nm em (pc + 3) cells slots lv ((em2 v).toList ++ st) (dnB (f v) g)) : dnD w x b G cc own nL rm nm em pc cells slots lv st0 (dnB (dnB X f) g) := by
  subst hst
  intro p l e s m args below meth c Q h a h1 H locs ls hC hF hR hS hl hq
  obtain ⟨hx, hb, hml, hown, hts, hnm, hK, hX, hbs, hSt, hG⟩ := id hC
  rw [dnB_assoc] at hF
  obtain ⟨v, h2, e1, e2⟩ := dnB_inv hF
  obtain ⟨g1, g2, g3, g4, g5, g6⟩ := hL
  have hG2 : GoodIn lw_ok (wsV own idx y.cls y (Cond.code y cc2 nL2 ret2 :: lw_ok)) := fun wd hwd => by
    unfold wsV at hwd
    rcases List.mem_append.mp hwd with h9 | h9
    · simp only [List.mem_cons, List.not_mem_nil, or_false] at h9
      rcases h9 with rfl | rfl | rfl | rfl <;> first | exact lw_good _ g1 | exact lw_good _ g2 | exact lw_good _ g3 | exact lw_good _ g4
    · exact dn_goodc g5 wd h9
  refine dn_ran (va_runV (As := As) (rest := st) ⟨hx, hb, hml, hown, hts⟩ (hM l h v h2 e1) (cwV n hts hG2 rfl rfl rfl ⟨rfl, g6⟩ hrm) ⟨dnRep.blind, hrv h v h2 e1 s H locs hX hS, fun U hU hW => ⟨rfl, hC.rep hR hS hU hW⟩⟩ rfl hn hl.1 rfl (lv_room (dn_room hw)) hdg (by rw [h0.1, h0.2.1]; exact h0.2.2)) hS (fun H1 locs1 hR1 hS1 => ?_)
  rw [h0.1, h0.2.1]
  exact kk v p l e s m args below meth c Q h2 a h1 H1 locs1 ls hC e2 hR1 hS1 hl hq
end DN
theorem dnX_val {x : dnX} {b k : Nat} (hk : k < 14) (U : State) (H : Heap) (h : dnExt x b U H) : va_OF "java/lang/String" "value" "[B" (.ref (dnAV x k)) (dnAK x k) (fun q => b ≤ q) U H := (h.2.2.2.2.2.1.1 k hk).2.2.1
theorem dnX_cod {x : dnX} {b k : Nat} (hk : k < 14) (U : State) (H : Heap) (h : dnExt x b U H) : va_OF "java/lang/String" "coder" "B" (.int 0) (dnAK x k) (fun q => b ≤ q) U H := (h.2.2.2.2.2.1.1 k hk).2.1
theorem dnX_byt {x : dnX} {b k : Nat} (hk : k < 14) (U : State) (H : Heap) (h : dnExt x b U H) : va_T .byte (dnAV x k) (dnWl k) (fun j => .int ((dnWrd.getD k []).getD j 0)) (fun q => b ≤ q) U H := (h.2.2.2.2.2.1.1 k hk).2.2.2
theorem dnX_cs {x : dnX} {b : Nat} (U : State) (H : Heap) (h : dnExt x b U H) : va_Z "java/lang/String" "COMPACT_STRINGS" "Z" (.int 1) (fun q => b ≤ q) U H := h.2.2.2.2.2.2.1
theorem dnX_sio {x : dnX} {b : Nat} (U : State) (H : Heap) (h : dnExt x b U H) : va_Zq "jdk/internal/util/Preconditions" "SIOOBE_FORMATTER" "Ljava/util/function/BiFunction;" (fun q => b ≤ q) U H := h.2.2.2.2.2.2.2
theorem dnX_wds {x : dnX} {b : Nat} (U : State) (H : Heap) (h : dnExt x b U H) : va_Z "KindGrids" "WORDS" "[LKindGrids$Step;" (.ref x.2.1) (fun q => b ≤ q) U H := h.2.1.1
theorem dnX_wdt {x : dnX} {b : Nat} (U : State) (H : Heap) (h : dnExt x b U H) : va_T (.object "KindGrids$Step") x.2.1 14 (fun j => .ref (dnAS x j)) (fun q => b ≤ q) U H := h.2.1.2
theorem dnX_swm {x : dnX} {b : Nat} (U : State) (H : Heap) (h : dnExt x b U H) : va_Z "KindGrids$1" "$SwitchMap$KindGrids$Step" "[I" (.ref x.2.2.1) (fun q => b ≤ q) U H := h.2.2.1.1
theorem dnX_num {x : dnX} {b k : Nat} (hk : k < 14) (U : State) (H : Heap) (h : dnExt x b U H) : va_OF "KindGrids$Step" "numbers" "I" (.int (dnNum k)) (dnAS x k) (fun q => b ≤ q) U H := h.2.2.2.1.1 k hk
theorem dnX_ord {x : dnX} {b k : Nat} (hk : k < 14) (U : State) (H : Heap) (h : dnExt x b U H) : va_OF "java/lang/Enum" "ordinal" "I" (.int (Int32.ofNat k)) (dnAS x k) (fun q => b ≤ q) U H := h.2.2.2.1.2.1 k hk
theorem dnX_wrd {x : dnX} {b k : Nat} (hk : k < 14) (U : State) (H : Heap) (h : dnExt x b U H) : va_OF "KindGrids$Step" "word" "Ljava/lang/String;" (.ref (dnAK x k)) (dnAS x k) (fun q => b ≤ q) U H := h.2.2.2.1.2.2 k hk
theorem dnSk_lt {k : Nat} {h : dnH} {v : Unit} {h2 : dnH} (e : dnSk k h = some (v, h2)) : k < 14 := by
  unfold dnSk at e
  split at e
  · assumption
  · cases e
theorem dnSc_lt {k : Nat} {i : Int32} {h : dnH} {v : Unit} {h2 : dnH} (e : dnSc k i h = some (v, h2)) : k < 14 := by
  unfold dnSc at e
  split at e
  · rename_i hk
    exact hk.1
  · cases e
theorem dnX_rvS {x : dnX} {b k : Nat} (hk : k < 14) (s : State) (H : Heap) (locs : List Loc) (h : dnExt x b s s.heap) (hS : va_S (fun q => b ≤ q) s.heap H locs) : ∃ cell : Cell, H[dnAK x k]? = some cell ∧ cell.vm.isStatics = false ∧ s.vm.findClass "java/lang/String" = some cell.cls := vk_recv h.2.2.2.2.2.1 hk hS
theorem dnX_rvE {x : dnX} {b k : Nat} (hk : k < 14) (s : State) (H : Heap) (locs : List Loc) (h : dnExt x b s s.heap) (hS : va_S (fun q => b ≤ q) s.heap H locs) : ∃ cell : Cell, H[dnAS x k]? = some cell ∧ cell.vm.isStatics = false ∧ s.vm.findClass "KindGrids$Step" = some cell.cls := by
  obtain ⟨cell, h1, h2, h3, h4⟩ := (h.2.2.2.2.1 k hk).kept (H1 := H) (fun a g1 g2 => hS.2.1 a g1 g2)
  exact ⟨cell, h1, h2, h3⟩
theorem kt_len : dnLX "KindGrids$PlanText" 55 0 yJ0_length_8abf5 cJ0_length_8abf5 1 (some .int) := ⟨(lw_okof 1072 qt_1072 rfl), (lw_okof 1073 qt_1073 rfl), (lw_okof 1074 qt_1074 rfl), (lw_okof 119 qt_119 rfl), (lw_okof 1075 qt_1075 rfl), by decide +kernel⟩
theorem kt_chr : dnLX "KindGrids$PlanText" 64 1 yJ0_charAt_5068e cJ0_charAt_5068e 2 (some .char) := ⟨(lw_okof 1086 qt_1086 rfl), (lw_okof 1087 qt_1087 rfl), (lw_okof 1088 qt_1088 rfl), (lw_okof 119 qt_119 rfl), (lw_okof 1089 qt_1089 rfl), by decide +kernel⟩
theorem kt_cod : dnLX "java/lang/String" 335 0 yJ0_coder_7d493 cJ0_coder_7d493 1 (some .byte) := ⟨(lw_okof 1076 qt_1076 rfl), (lw_okof 1077 qt_1077 rfl), (lw_okof 1078 qt_1078 rfl), (lw_okof 119 qt_119 rfl), (lw_okof 1079 qt_1079 rfl), by decide +kernel⟩
theorem kt_isl : dnLX "java/lang/String" 492 0 yJ0_isLatin1_aae02 cJ0_isLatin1_aae02 1 (some .boolean) := ⟨(lw_okof 1090 qt_1090 rfl), (lw_okof 1091 qt_1091 rfl), (lw_okof 1092 qt_1092 rfl), (lw_okof 119 qt_119 rfl), (lw_okof 1093 qt_1093 rfl), by decide +kernel⟩
theorem kt_l1c : dnLS "java/lang/String" 495 2 yJ1_charAt_3b067 cJ1_charAt_3b067 2 (some .char) := ⟨(lw_okof 1094 qt_1094 rfl), (lw_okof 1095 qt_1095 rfl), (lw_okof 120 qt_120 rfl), (lw_okof 1096 qt_1096 rfl), by decide +kernel⟩
theorem kt_chk : dnLS "java/lang/StringLatin1" 9 2 yJ0_checkIndex_df160 cJ0_checkIndex_df160 2 none := ⟨(lw_okof 1097 qt_1097 rfl), (lw_okof 1098 qt_1098 rfl), (lw_okof 119 qt_119 rfl), (lw_okof 1099 qt_1099 rfl), by decide +kernel⟩
theorem kt_pci : dnLS "java/lang/String" 1059 3 yJ3_checkIndex_8e157 cJ3_checkIndex_8e157 3 (some .int) := ⟨(lw_okof 1102 qt_1102 rfl), (lw_okof 1103 qt_1103 rfl), (lw_okof 121 qt_121 rfl), (lw_okof 1104 qt_1104 rfl), by decide +kernel⟩
theorem kf_val : Cond.fieldLink "java/lang/String" 9 "java/lang/String" "value" "[B" ∈ lw_ok := (lw_okof 2123 qt_2123 rfl)
theorem kf_cod : Cond.fieldLink "java/lang/String" 15 "java/lang/String" "coder" "B" ∈ lw_ok := (lw_okof 2124 qt_2124 rfl)
theorem kf_cs : Cond.fieldLink "java/lang/String" 38 "java/lang/String" "COMPACT_STRINGS" "Z" ∈ lw_ok := (lw_okof 1080 qt_1080 rfl)
theorem kf_sio : Cond.fieldLink "java/lang/String" 1053 "jdk/internal/util/Preconditions" "SIOOBE_FORMATTER" "Ljava/util/function/BiFunction;" ∈ lw_ok := (lw_okof 1100 qt_1100 rfl)
theorem kf_ord : Cond.fieldLink "java/lang/Enum" 7 "java/lang/Enum" "ordinal" "I" ∈ lw_ok := (lw_okof 2126 qt_2126 rfl)
theorem kf_wrd : Cond.fieldLink "KindGrids$PlanText" 51 "KindGrids$Step" "word" "Ljava/lang/String;" ∈ lw_ok := (lw_okof 2122 qt_2122 rfl)
theorem kf_num : Cond.fieldLink "KindGrids$PlanText" 40 "KindGrids$Step" "numbers" "I" ∈ lw_ok := (lw_okof 2125 qt_2125 rfl)
theorem kf_swm : Cond.fieldLink "KindGrids" 285 "KindGrids$1" "$SwitchMap$KindGrids$Step" "[I" ∈ lw_ok := (lw_okof 1146 qt_1146 rfl)
theorem kf_wds : Cond.fieldLinkNest "KindGrids$PlanText" 26 "KindGrids" "WORDS" "[LKindGrids$Step;" "KindGrids" ∈ lw_nest := lw_nestof 1070 qt_1070 rfl
theorem dn_shape {α : Type} {w : dnWd} {x : dnX} {b : Nat} {G : State → Prop} {cc : ByteArray} {own : String} {nL : Nat} {rm : Room} {nm : String} {em : α → Option Value} {pc cells slots : Nat} {lv : List (Nat × Value)} {st : List Value} {F F2 : dnM α} (e : ∀ h, F h = F2 h) (k : dnD w x b G cc own nL rm nm em pc cells slots lv st (dnB F2 dnP)) : dnD w x b G cc own nL rm nm em pc cells slots lv st (dnB F dnP) := by
  rw [show F = F2 from funext e]
  exact k
abbrev rmJ0_coder_7d493 : Room := { frames := 0, cells := 0, slots := 0, locals := 0 }
set_option maxHeartbeats 4000000 in
set_option maxRecDepth 100000 in
theorem mJ0_coder_7d493 (w : dnWd) (x : dnX) (b : Nat) (k : Nat) : dnMt w x b yJ0_coder_7d493 cJ0_coder_7d493 1 (some .byte) rmJ0_coder_7d493 (fun _ : Unit => some (.int 0)) [.ref (dnAK x k)] (dnSk k) := by
  have hlv : lv_args 0 [.ref (dnAK x k)] = [(0, .ref (dnAK x k))] := by rfl
  refine dn_mt (by decide +kernel) (fun _ => ⟨_, rfl, rfl⟩) (by exact (Nat.le_of_ble_eq_true rfl)) ?_
  rw [hlv]
  refine dn_top ?_
  show dnD w x b (fun _ => True) cJ0_coder_7d493 "java/lang/String" 1 rmJ0_coder_7d493 "coder" (fun _ : Unit => some (.int 0)) 0 0 0 _ [] (dnB _ dnP)
  refine dn_shape (F2 := dnB (dnSk k) fun _ => if (1 : Int32) = 0 then (fun _ => none) else dnP ()) (fun h => by by_cases hk : k < 14 <;> simp [dnSk, dnB, dnP, hk]) ?_
  refine dn_Sk (fun hk => ?_)
  refine dn_gets (pc := 0) dnX_cs kf_cs dJ0_coder_7d493_0 ?_
  refine dn_if_eq (pc := 3) 13 dJ0_coder_7d493_3 rfl (fun _ => ?_) (fun _ => ?_)
  · exact dn_none
  · refine dn_aloadX_n (pc := 6) 0 dJ0_coder_7d493_6 rfl ?_
    refine dn_getOF (pc := 7) (dnX_cod hk) kf_cod dJ0_coder_7d493_7 ?_
    refine dn_goto (pc := 10) 14 dJ0_coder_7d493_10 rfl ?_
    exact dn_ret (Nat.le_of_ble_eq_true rfl) (Nat.le_of_ble_eq_true rfl) rfl dJ0_coder_7d493_14
abbrev rmJ0_length_8abf5 : Room := { frames := 1, cells := 0, slots := 0, locals := 20 }
set_option maxHeartbeats 4000000 in
set_option maxRecDepth 100000 in
theorem mJ0_length_8abf5 (w : dnWd) (x : dnX) (b : Nat) (k : Nat) : dnMt w x b yJ0_length_8abf5 cJ0_length_8abf5 1 (some .int) rmJ0_length_8abf5 (fun _ : Unit => some (.int (dnLen k))) [.ref (dnAK x k)] (dnSk k) := by
  have hlv : lv_args 0 [.ref (dnAK x k)] = [(0, .ref (dnAK x k))] := by rfl
  refine dn_mt (by decide +kernel) (fun _ => ⟨_, rfl, rfl⟩) (by exact (Nat.le_of_ble_eq_true rfl)) ?_
  rw [hlv]
  refine dn_top ?_
  show dnD w x b (fun _ => True) cJ0_length_8abf5 "java/lang/String" 1 rmJ0_length_8abf5 "length" (fun _ : Unit => some (.int (dnLen k))) 0 0 0 _ [] (dnB _ dnP)
  refine dn_shape (F2 := dnB (dnSk k) fun _ => dnB (dnSk k) fun _ => dnP ()) (fun h => by by_cases hk : k < 14 <;> simp [dnSk, dnB, dnP, hk]) ?_
  refine dn_Sk (fun hk => ?_)
  refine dn_aloadX_n (pc := 0) 0 dJ0_length_8abf5_0 rfl ?_
  refine dn_getOF (pc := 1) (dnX_val hk) kf_val dJ0_length_8abf5_1 ?_
  refine dn_tlen (pc := 4) (dnX_byt hk) dJ0_length_8abf5_4 ?_
  refine dn_aloadX_n (pc := 5) 0 dJ0_length_8abf5_5 rfl ?_
  refine dn_callX (pc := 6) [] kt_cod (mJ0_coder_7d493 w x b k) (fun h v h2 e => dnX_rvS (dnSk_lt e)) rfl rfl (Nat.le_of_ble_eq_true rfl) ⟨(Nat.le_of_ble_eq_true rfl), (Nat.le_of_ble_eq_true rfl)⟩ ⟨rfl, rfl, (Nat.le_of_ble_eq_true rfl), (Nat.le_of_ble_eq_true rfl)⟩ dJ0_length_8abf5_6 (fun _ => ?_)
  refine dn_ishr (pc := 9) dJ0_length_8abf5_9 ?_
  exact dn_ret (Nat.le_of_ble_eq_true rfl) (Nat.le_of_ble_eq_true rfl) rfl dJ0_length_8abf5_10
abbrev rmJ0_isLatin1_aae02 : Room := { frames := 0, cells := 0, slots := 0, locals := 0 }
set_option maxHeartbeats 4000000 in
set_option maxRecDepth 100000 in
theorem mJ0_isLatin1_aae02 (w : dnWd) (x : dnX) (b : Nat) (k : Nat) : dnMt w x b yJ0_isLatin1_aae02 cJ0_isLatin1_aae02 1 (some .boolean) rmJ0_isLatin1_aae02 (fun _ : Unit => some (.int 1)) [.ref (dnAK x k)] (dnSk k) := by
  have hlv : lv_args 0 [.ref (dnAK x k)] = [(0, .ref (dnAK x k))] := by rfl
  refine dn_mt (by decide +kernel) (fun _ => ⟨_, rfl, rfl⟩) (by exact (Nat.le_of_ble_eq_true rfl)) ?_
  rw [hlv]
  refine dn_top ?_
  show dnD w x b (fun _ => True) cJ0_isLatin1_aae02 "java/lang/String" 1 rmJ0_isLatin1_aae02 "isLatin1" (fun _ : Unit => some (.int 1)) 0 0 0 _ [] (dnB _ dnP)
  refine dn_shape (F2 := dnB (dnSk k) fun _ => if (1 : Int32) = 0 then (fun _ => none) else (if ¬ (0 : Int32) = 0 then (fun _ => none) else dnP ())) (fun h => by by_cases hk : k < 14 <;> simp [dnSk, dnB, dnP, hk]) ?_
  refine dn_Sk (fun hk => ?_)
  refine dn_gets (pc := 0) dnX_cs kf_cs dJ0_isLatin1_aae02_0 ?_
  refine dn_if_eq (pc := 3) 17 dJ0_isLatin1_aae02_3 rfl (fun _ => ?_) (fun _ => ?_)
  · exact dn_none
  · refine dn_aloadX_n (pc := 6) 0 dJ0_isLatin1_aae02_6 rfl ?_
    refine dn_getOF (pc := 7) (dnX_cod hk) kf_cod dJ0_isLatin1_aae02_7 ?_
    refine dn_if_ne (pc := 10) 17 dJ0_isLatin1_aae02_10 rfl (fun _ => ?_) (fun _ => ?_)
    · exact dn_none
    · refine dn_iconst (pc := 13) (v := 1) dJ0_isLatin1_aae02_13 rfl ?_
      refine dn_goto (pc := 14) 18 dJ0_isLatin1_aae02_14 rfl ?_
      exact dn_ret (Nat.le_of_ble_eq_true rfl) (Nat.le_of_ble_eq_true rfl) rfl dJ0_isLatin1_aae02_18
def dnCi (i n : Int32) : dnM Unit := fun h => if ¬ i < 0 ∧ i < n then some ((), h) else none
abbrev rmJ3_checkIndex_8e157 : Room := { frames := 0, cells := 0, slots := 0, locals := 0 }
set_option maxHeartbeats 4000000 in
set_option maxRecDepth 100000 in
theorem mJ3_checkIndex_8e157 (w : dnWd) (x : dnX) (b : Nat) (i n : Int32) (v : Value) (hv : v = .null ∨ ∃ a, v = .ref a) : dnMt w x b yJ3_checkIndex_8e157 cJ3_checkIndex_8e157 3 (some .int) rmJ3_checkIndex_8e157 (fun _ : Unit => some (.int i)) [.int i, .int n, v] (dnCi i n) := by
  have hlv : lv_args 0 [.int i, .int n, v] = [(0, .int i), (1, .int n), (2, v)] := by rcases hv with rfl | ⟨_, rfl⟩ <;> rfl
  refine dn_mt (by decide +kernel) (fun _ => ⟨_, rfl, rfl⟩) (by rcases hv with rfl | ⟨_, rfl⟩ <;> exact (Nat.le_of_ble_eq_true rfl)) ?_
  rw [hlv]
  refine dn_top ?_
  show dnD w x b (fun _ => True) cJ3_checkIndex_8e157 "jdk/internal/util/Preconditions" 3 rmJ3_checkIndex_8e157 "checkIndex" (fun _ : Unit => some (.int i)) 0 0 0 _ [] (dnB _ dnP)
  refine dn_shape (F2 := if i < 0 then (fun _ => none) else (if i < n then dnP () else (fun _ => none))) (fun h => by by_cases h1 : i < 0 <;> by_cases h2 : i < n <;> simp [dnCi, dnP, h1, h2]) ?_
  refine dn_iload_n (pc := 0) 0 dJ3_checkIndex_8e157_0 rfl ?_
  refine dn_if_lt (pc := 1) 9 dJ3_checkIndex_8e157_1 rfl (fun _ => ?_) (fun _ => ?_)
  · exact dn_none
  · refine dn_iload_n (pc := 4) 0 dJ3_checkIndex_8e157_4 rfl ?_
    refine dn_iload_n (pc := 5) 1 dJ3_checkIndex_8e157_5 rfl ?_
    refine dn_icmp_lt (pc := 6) 16 dJ3_checkIndex_8e157_6 rfl (fun _ => ?_) (fun _ => ?_)
    · refine dn_iload_n (pc := 16) 0 dJ3_checkIndex_8e157_16 rfl ?_
      exact dn_ret (Nat.le_of_ble_eq_true rfl) (Nat.le_of_ble_eq_true rfl) rfl dJ3_checkIndex_8e157_17
    · exact dn_none
abbrev rmJ0_checkIndex_df160 : Room := { frames := 1, cells := 0, slots := 0, locals := 22 }
set_option maxHeartbeats 4000000 in
set_option maxRecDepth 100000 in
theorem mJ0_checkIndex_df160 (w : dnWd) (x : dnX) (b : Nat) (i n : Int32) : dnMt w x b yJ0_checkIndex_df160 cJ0_checkIndex_df160 2 none rmJ0_checkIndex_df160 eU [.int i, .int n] (dnCi i n) := by
  have hlv : lv_args 0 [.int i, .int n] = [(0, .int i), (1, .int n)] := by rfl
  refine dn_mt (by decide +kernel) roU (by exact (Nat.le_of_ble_eq_true rfl)) ?_
  rw [hlv]
  refine dn_top ?_
  show dnD w x b (fun _ => True) cJ0_checkIndex_df160 "java/lang/String" 2 rmJ0_checkIndex_df160 "checkIndex" eU 0 0 0 _ [] (dnB _ dnP)
  refine dn_shape (F2 := dnB (dnCi i n) fun _ => dnP ()) (fun h => by by_cases h1 : i < 0 <;> by_cases h2 : i < n <;> simp [dnCi, dnB, dnP, h1, h2]) ?_
  refine dn_iload_n (pc := 0) 0 dJ0_checkIndex_df160_0 rfl ?_
  refine dn_iload_n (pc := 1) 1 dJ0_checkIndex_df160_1 rfl ?_
  refine dn_getsQ (pc := 2) dnX_sio kf_sio dJ0_checkIndex_df160_2 (fun v hv => ?_)
  refine dn_callS0 (pc := 5) [.int i, .int n, v] kt_pci (mJ3_checkIndex_8e157 w x b i n v hv) rfl rfl (Nat.le_of_ble_eq_true rfl) ⟨(Nat.le_of_ble_eq_true rfl), (Nat.le_of_ble_eq_true rfl)⟩ ⟨rfl, rfl, (Nat.le_of_ble_eq_true rfl), (Nat.le_of_ble_eq_true rfl)⟩ dJ0_checkIndex_df160_5 (fun _ => ?_)
  refine dn_pop (pc := 8) dJ0_checkIndex_df160_8 rfl ?_
  exact dn_ret (Nat.le_of_ble_eq_true rfl) (Nat.le_of_ble_eq_true rfl) rfl dJ0_checkIndex_df160_9
theorem dn_chr_ok (k : Nat) (i : Int32) : narrow .char (.int (dnChr k i)) = .int (dnChr k i) := by
  show Value.int _ = _
  congr 1
  unfold dnChr
  generalize (dnBy k i &&& 255).toUInt32 = y
  have e : (y % 65536).toInt32.toUInt32.toUInt16.toUInt32 = y % 65536 := by
    apply UInt32.toNat.inj
    simp
  rw [e]
theorem dnSc_ci {k : Nat} {i : Int32} (h : dnIn i (dnWl k) = true) (hk : k < 14) : ¬ i < 0 ∧ i < Int32.ofNat (dnWl k) := by
  have hv := vp_in_iff.mp (dnIn_vp h)
  have hw : dnWl k < 100 := by
    have := (show ∀ k, k < 14 → dnWl k < 100 by decide +kernel) k hk
    exact this
  refine ⟨fun q => ?_, ?_⟩
  · have := Int32.lt_iff_toInt_lt.mp q
    have h0 : (0 : Int32).toInt = 0 := rfl
    omega
  · apply Int32.lt_iff_toInt_lt.mpr
    have e : (Int32.ofNat (dnWl k)).toInt = (dnWl k : Int) := nI_toInt (by omega)
    omega
abbrev rmJ1_charAt_3b067 : Room := { frames := 2, cells := 0, slots := 0, locals := 43 }
set_option maxHeartbeats 4000000 in
set_option maxRecDepth 100000 in
theorem mJ1_charAt_3b067 (w : dnWd) (x : dnX) (b : Nat) (k : Nat) (i : Int32) : dnMt w x b yJ1_charAt_3b067 cJ1_charAt_3b067 2 (some .char) rmJ1_charAt_3b067 (fun _ : Unit => some (.int (dnChr k i))) [.ref (dnAV x k), .int i] (dnSc k i) := by
  have hlv : lv_args 0 [.ref (dnAV x k), .int i] = [(0, .ref (dnAV x k)), (1, .int i)] := by rfl
  refine dn_mt (by decide +kernel) (fun _ => ⟨_, rfl, dn_chr_ok k i⟩) (by exact (Nat.le_of_ble_eq_true rfl)) ?_
  rw [hlv]
  refine dn_top ?_
  show dnD w x b (fun _ => True) cJ1_charAt_3b067 "java/lang/StringLatin1" 2 rmJ1_charAt_3b067 "charAt" (fun _ : Unit => some (.int (dnChr k i))) 0 0 0 _ [] (dnB _ dnP)
  refine dn_shape (F2 := dnB (dnSc k i) fun _ => dnB (dnCi i (Int32.ofNat (dnWl k))) fun _ => dnP ()) (fun h => by by_cases hk : k < 14 <;> by_cases hi : dnIn i (dnWl k) = true <;> first | (have hc := dnSc_ci hi hk; simp [dnSc, dnSk, dnCi, dnB, dnP, hk, hi, hc]; done) | simp [dnSc, dnSk, dnCi, dnB, dnP, hk, hi]) ?_
  refine dn_Sc (fun hk hi => ?_)
  refine dn_iload_n (pc := 0) 1 dJ1_charAt_3b067_0 rfl ?_
  refine dn_aloadX_n (pc := 1) 0 dJ1_charAt_3b067_1 rfl ?_
  refine dn_tlen (pc := 2) (dnX_byt hk) dJ1_charAt_3b067_2 ?_
  refine dn_callS0U (pc := 3) [.int i, .int (Int32.ofNat (dnWl k))] kt_chk (mJ0_checkIndex_df160 w x b i (Int32.ofNat (dnWl k))) rfl rfl (Nat.le_of_ble_eq_true rfl) ⟨(Nat.le_of_ble_eq_true rfl), (Nat.le_of_ble_eq_true rfl)⟩ ⟨rfl, rfl, (Nat.le_of_ble_eq_true rfl), (Nat.le_of_ble_eq_true rfl)⟩ dJ1_charAt_3b067_3 (fun _ => ?_)
  refine dn_aloadX_n (pc := 6) 0 dJ1_charAt_3b067_6 rfl ?_
  refine dn_iload_n (pc := 7) 1 dJ1_charAt_3b067_7 rfl ?_
  refine dn_tb (pc := 8) (dnX_byt hk) hi dJ1_charAt_3b067_8 ?_
  refine dn_sipush (pc := 9) (v := 255) dJ1_charAt_3b067_9 rfl ?_
  refine dn_iand (pc := 12) dJ1_charAt_3b067_12 ?_
  refine dn_i2c (pc := 13) dJ1_charAt_3b067_13 ?_
  exact dn_ret (Nat.le_of_ble_eq_true rfl) (Nat.le_of_ble_eq_true rfl) rfl dJ1_charAt_3b067_14
abbrev rmJ0_charAt_5068e : Room := { frames := 3, cells := 0, slots := 0, locals := 64 }
set_option maxHeartbeats 4000000 in
set_option maxRecDepth 100000 in
theorem mJ0_charAt_5068e (w : dnWd) (x : dnX) (b : Nat) (k : Nat) (i : Int32) : dnMt w x b yJ0_charAt_5068e cJ0_charAt_5068e 2 (some .char) rmJ0_charAt_5068e (fun _ : Unit => some (.int (dnChr k i))) [.ref (dnAK x k), .int i] (dnSc k i) := by
  have hlv : lv_args 0 [.ref (dnAK x k), .int i] = [(0, .ref (dnAK x k)), (1, .int i)] := by rfl
  refine dn_mt (by decide +kernel) (fun _ => ⟨_, rfl, dn_chr_ok k i⟩) (by exact (Nat.le_of_ble_eq_true rfl)) ?_
  rw [hlv]
  refine dn_top ?_
  show dnD w x b (fun _ => True) cJ0_charAt_5068e "java/lang/String" 2 rmJ0_charAt_5068e "charAt" (fun _ : Unit => some (.int (dnChr k i))) 0 0 0 _ [] (dnB _ dnP)
  refine dn_shape (F2 := dnB (dnSc k i) fun _ => dnB (dnSk k) fun _ => if (1 : Int32) = 0 then (fun _ => none) else dnB (dnSc k i) fun _ => dnP ()) (fun h => by by_cases hk : k < 14 <;> by_cases hi : dnIn i (dnWl k) = true <;> first | (have hc := dnSc_ci hi hk; simp [dnSc, dnSk, dnCi, dnB, dnP, hk, hi, hc]; done) | simp [dnSc, dnSk, dnCi, dnB, dnP, hk, hi]) ?_
  refine dn_Sc (fun hk hi => ?_)
  refine dn_aloadX_n (pc := 0) 0 dJ0_charAt_5068e_0 rfl ?_
  refine dn_callX (pc := 1) [] kt_isl (mJ0_isLatin1_aae02 w x b k) (fun h v h2 e => dnX_rvS (dnSk_lt e)) rfl rfl (Nat.le_of_ble_eq_true rfl) ⟨(Nat.le_of_ble_eq_true rfl), (Nat.le_of_ble_eq_true rfl)⟩ ⟨rfl, rfl, (Nat.le_of_ble_eq_true rfl), (Nat.le_of_ble_eq_true rfl)⟩ dJ0_charAt_5068e_1 (fun _ => ?_)
  refine dn_if_eq (pc := 4) 16 dJ0_charAt_5068e_4 rfl (fun _ => ?_) (fun _ => ?_)
  · exact dn_none
  · refine dn_aloadX_n (pc := 7) 0 dJ0_charAt_5068e_7 rfl ?_
    refine dn_getOF (pc := 8) (dnX_val hk) kf_val dJ0_charAt_5068e_8 ?_
    refine dn_iload_n (pc := 11) 1 dJ0_charAt_5068e_11 rfl ?_
    refine dn_callS0 (pc := 12) [.ref (dnAV x k), .int i] kt_l1c (mJ1_charAt_3b067 w x b k i) rfl rfl (Nat.le_of_ble_eq_true rfl) ⟨(Nat.le_of_ble_eq_true rfl), (Nat.le_of_ble_eq_true rfl)⟩ ⟨rfl, rfl, (Nat.le_of_ble_eq_true rfl), (Nat.le_of_ble_eq_true rfl)⟩ dJ0_charAt_5068e_12 (fun _ => ?_)
    exact dn_ret (Nat.le_of_ble_eq_true rfl) (Nat.le_of_ble_eq_true rfl) rfl dJ0_charAt_5068e_15
abbrev rmJx29ce0_ordinal_8abf5 : Room := { frames := 0, cells := 0, slots := 0, locals := 0 }
set_option maxHeartbeats 4000000 in
set_option maxRecDepth 100000 in
theorem mJx29ce0_ordinal_8abf5 (w : dnWd) (x : dnX) (b : Nat) (k : Nat) : dnMt w x b yJx29ce0_ordinal_8abf5 cJx29ce0_ordinal_8abf5 1 (some .int) rmJx29ce0_ordinal_8abf5 (fun _ : Unit => some (.int (Int32.ofNat k))) [.ref (dnAS x k)] (dnSk k) := by
  have hlv : lv_args 0 [.ref (dnAS x k)] = [(0, .ref (dnAS x k))] := by rfl
  refine dn_mt (by decide +kernel) (fun _ => ⟨_, rfl, rfl⟩) (by exact (Nat.le_of_ble_eq_true rfl)) ?_
  rw [hlv]
  refine dn_top ?_
  show dnD w x b (fun _ => True) cJx29ce0_ordinal_8abf5 "java/lang/Enum" 1 rmJx29ce0_ordinal_8abf5 "ordinal" (fun _ : Unit => some (.int (Int32.ofNat k))) 0 0 0 _ [] (dnB _ dnP)
  refine dn_shape (F2 := dnB (dnSk k) fun _ => dnP ()) (fun h => by by_cases hk : k < 14 <;> simp [dnSk, dnB, dnP, hk]) ?_
  refine dn_Sk (fun hk => ?_)
  refine dn_aloadX_n (pc := 0) 0 dJx29ce0_ordinal_8abf5_0 rfl ?_
  refine dn_getOF (pc := 1) (dnX_ord hk) kf_ord dJx29ce0_ordinal_8abf5_1 ?_
  exact dn_ret (Nat.le_of_ble_eq_true rfl) (Nat.le_of_ble_eq_true rfl) rfl dJx29ce0_ordinal_8abf5_4
abbrev eS (x : dnX) : Nat → Option Value := fun k => some (.ref (dnAS x k))
theorem roS {x : dnX} : ∀ a, dnRO (some (.object "KindGrids$Step")) (eS x a) := fun a => ⟨Or.inr ⟨_, rfl⟩, _, rfl⟩
