abbrev rmX13_isReadable : Room := { frames := 2, cells := 0, slots := 0, locals := 43 }
def fX13_isReadable (r0 : Option Nat) (p1 : Int32) (p2 : Int32) : dnM Bool :=
  dnB (dnGR r0 11 6) fun v1 =>
  dnB (dnAI v1 100 p1) fun v2 =>
  dnB (fX13_isPlain v2) fun v3 =>
  if v3 = true then
  (dnB (dnGR r0 11 6) fun v4 =>
  dnB (dnAI v4 100 p1) fun v5 =>
  dnB (fX13_takes p2 v5) fun v6 =>
  if v6 = true then
  (dnP true)
  else
  (dnP false))
  else
  (dnP false)
abbrev jX13_isReadable (w : dnWd) (x : dnX) (b : Nat) := dnD w x b (fun _ => True) cX13_isReadable RX13 3 rmX13_isReadable "isReadable" eZ
set_option maxHeartbeats 4000000 in
set_option maxRecDepth 100000 in
theorem mX13_isReadable (w : dnWd) (x : dnX) (b : Nat) (r0 : Option Nat) (p1 : Int32) (p2 : Int32) : dnMt w x b yX13_isReadable cX13_isReadable 3 (some .boolean) rmX13_isReadable eZ [dnV b r0, .int p1, .int p2] (fX13_isReadable r0 p1 p2) := by
  have hlv : lv_args 0 [dnV b r0, .int p1, .int p2] = [(0, dnV b r0), (1, .int p1), (2, .int p2)] := by cases r0 <;> rfl
  refine dn_mt (by decide +kernel) roZ (by cases r0 <;> exact (Nat.le_of_ble_eq_true rfl)) ?_
  rw [hlv]
  refine dn_top ?_
  show jX13_isReadable w x b 0 0 0 _ [] (dnB _ dnP)
  unfold fX13_isReadable
  refine dn_aload_n (pc := 0) r0 0 dX13_isReadable_0 rfl ?_
  refine dn_getR (pc := 1) r0 lRX13_23 dX13_isReadable_1 (fun v1 => ?_)
  refine dn_iload_n (pc := 4) 1 dX13_isReadable_4 rfl ?_
  refine dn_iald (pc := 5) v1 dX13_isReadable_5 (fun v2 => ?_)
  refine dn_callS0Z (pc := 6) [.int v2]  kRX13_209 (mX13_isPlain w x b v2) rfl rfl (Nat.le_of_ble_eq_true rfl) ⟨(Nat.le_of_ble_eq_true rfl), (Nat.le_of_ble_eq_true rfl)⟩ ⟨rfl, rfl, (Nat.le_of_ble_eq_true rfl), (Nat.le_of_ble_eq_true rfl)⟩ dX13_isReadable_6 (fun v3 => ?_)
  refine dn_ifz_eq (pc := 9) 29 dX13_isReadable_9 rfl (fun _ => ?_) (fun _ => ?_)
  · refine dn_iload_n (pc := 12) 2 dX13_isReadable_12 rfl ?_
    refine dn_aload_n (pc := 13) r0 0 dX13_isReadable_13 rfl ?_
    refine dn_getR (pc := 14) r0 lRX13_23 dX13_isReadable_14 (fun v4 => ?_)
    refine dn_iload_n (pc := 17) 1 dX13_isReadable_17 rfl ?_
    refine dn_iald (pc := 18) v4 dX13_isReadable_18 (fun v5 => ?_)
    refine dn_callS0Z (pc := 19) [.int p2, .int v5]  kRX13_205 (mX13_takes w x b p2 v5) rfl rfl (Nat.le_of_ble_eq_true rfl) ⟨(Nat.le_of_ble_eq_true rfl), (Nat.le_of_ble_eq_true rfl)⟩ ⟨rfl, rfl, (Nat.le_of_ble_eq_true rfl), (Nat.le_of_ble_eq_true rfl)⟩ dX13_isReadable_19 (fun v6 => ?_)
    refine dn_ifz_eq (pc := 22) 29 dX13_isReadable_22 rfl (fun _ => ?_) (fun _ => ?_)
    · refine dn_iconst (pc := 25) (v := 1) dX13_isReadable_25 rfl ?_
      refine dn_goto (pc := 26) 30 dX13_isReadable_26 rfl ?_
      exact dn_ret (Nat.le_of_ble_eq_true rfl) (Nat.le_of_ble_eq_true rfl) rfl dX13_isReadable_30
    · refine dn_iconst (pc := 29) (v := 0) dX13_isReadable_29 rfl ?_
      exact dn_ret (Nat.le_of_ble_eq_true rfl) (Nat.le_of_ble_eq_true rfl) rfl dX13_isReadable_30
  · refine dn_iconst (pc := 29) (v := 0) dX13_isReadable_29 rfl ?_
    exact dn_ret (Nat.le_of_ble_eq_true rfl) (Nat.le_of_ble_eq_true rfl) rfl dX13_isReadable_30
abbrev rmX13_isHeld : Room := { frames := 0, cells := 0, slots := 0, locals := 0 }
def fX13_isHeld_j43 (l0 : Option Nat) (l1 : Int32) (l3 : Int32) (s0 : Bool) : dnM ((Bool × Int32) ⊕ (Bool)) :=
  dnP (.inl (s0, (l3 + 1)))
def fX13_isHeld_j38 (l0 : Option Nat) (l1 : Int32) (l3 : Int32) : dnM ((Bool × Int32) ⊕ (Bool)) :=
  fX13_isHeld_j43 l0 l1 l3 true
def fX13_isHeld_b18 (c0 : Option Nat) (c1 : Int32) (s18 : Bool × Int32) : dnM ((Bool × Int32) ⊕ (Bool)) :=
  if 24 ≤ s18.2 then
  (dnP (.inr s18.1))
  else
  (if s18.1 = true then
  (fX13_isHeld_j38 c0 c1 s18.2)
  else
  (dnB (dnGR c0 11 5) fun v1 =>
  dnB (dnAI v1 100 s18.2) fun v2 =>
  if ¬ v2 = c1 then
  (fX13_isHeld_j43 c0 c1 s18.2 false)
  else
  (fX13_isHeld_j38 c0 c1 s18.2)))
def fX13_isHeld_j15 (l0 : Option Nat) (l1 : Int32) (s0 : Bool) : dnM Bool :=
  dnB (dnIt 1000 (fX13_isHeld_b18 l0 l1) (s0, 0)) fun q18 =>
  dnP q18
def fX13_isHeld (r0 : Option Nat) (p1 : Int32) : dnM Bool :=
  dnB (dnGR r0 11 8) fun v3 =>
  dnB (dnAI v3 100 p1) fun v4 =>
  if ¬ v4 = 1 then
  (fX13_isHeld_j15 r0 p1 false)
  else
  (fX13_isHeld_j15 r0 p1 true)
abbrev jX13_isHeld (w : dnWd) (x : dnX) (b : Nat) := dnD w x b (fun _ => True) cX13_isHeld RX13 4 rmX13_isHeld "isHeld" eZ
set_option maxHeartbeats 4000000 in
set_option maxRecDepth 100000 in
theorem mX13_isHeld (w : dnWd) (x : dnX) (b : Nat) (r0 : Option Nat) (p1 : Int32) : dnMt w x b yX13_isHeld cX13_isHeld 4 (some .boolean) rmX13_isHeld eZ [dnV b r0, .int p1] (fX13_isHeld r0 p1) := by
  have hlv : lv_args 0 [dnV b r0, .int p1] = [(0, dnV b r0), (1, .int p1)] := by cases r0 <;> rfl
  refine dn_mt (by decide +kernel) roZ (by cases r0 <;> exact (Nat.le_of_ble_eq_true rfl)) ?_
  rw [hlv]
  refine dn_top ?_
  show jX13_isHeld w x b 0 0 0 _ [] (dnB _ dnP)
  unfold fX13_isHeld
  have hj15 : ∀ (l0 : Option Nat) (l1 : Int32) (s0 : Bool), jX13_isHeld w x b 15 0 0 [(0, dnV b l0), (1, .int l1)] [.int (dnZ s0)] (dnB (fX13_isHeld_j15 l0 l1 s0) dnP) := by
    intro l0 l1 s0
    unfold fX13_isHeld_j15
    refine dn_istore_n (pc := 15) dX13_isHeld_15 (Nat.le_of_ble_eq_true rfl) (dnKp_nb 1 rfl rfl rfl (dnKp_of (lv2 := [(0, dnV b l0)]) [0] rfl rfl)) ?_
    refine dn_iconst (pc := 16) (v := 0) dX13_isHeld_16 rfl ?_
    refine dn_istore_n (pc := 17) dX13_isHeld_17 (Nat.le_of_ble_eq_true rfl) (dnKp_nb 0 rfl rfl rfl (dnKp_of (lv2 := [(1, .int l1), (0, dnV b l0)]) [1, 2] rfl rfl)) ?_
    refine dn_assoc ?_
    refine dn_lv [3, 2, 1, 0] (lv2 := (fun s => [(0, dnV b l0), (1, .int l1), (2, .int (dnZ s.1)), (3, .int s.2)]) (s0, 0)) rfl ?_
    refine dn_loopE (pc := 18) (body := fX13_isHeld_b18 l0 l1) 50 (fun s => [(0, dnV b l0), (1, .int l1), (2, .int (dnZ s.1)), (3, .int s.2)]) (fun q => [(2, .int (dnZ q))]) (fun s18 K18 E18 hK18 hE18 => ?_) (fun q18 => ?_) 1000 (s0, 0)
    · unfold fX13_isHeld_b18
      have hj43 : ∀ (l3 : Int32) (s0 : Bool), jX13_isHeld w x b 43 0 0 [(0, dnV b l0), (1, .int l1), (3, .int l3)] [.int (dnZ s0)] (dnB (fX13_isHeld_j43 l0 l1 l3 s0) (dnKo K18 E18)) := by
        intro l3 s0
        unfold fX13_isHeld_j43
        refine dn_istore_n (pc := 43) dX13_isHeld_43 (Nat.le_of_ble_eq_true rfl) (dnKp_nb 1 rfl rfl rfl (dnKp_of (lv2 := [(0, dnV b l0), (3, .int l3)]) [0, 2] rfl rfl)) ?_
        refine dn_iinc (pc := 44) (l3 + 1) 3 dX13_isHeld_44 rfl rfl (Nat.le_of_ble_eq_true rfl) (dnKp_nb 0 rfl rfl rfl (dnKp_of (lv2 := [(1, .int l1), (0, dnV b l0)]) [1, 2] rfl rfl)) ?_
        refine dn_goto (pc := 47) 18 dX13_isHeld_47 rfl ?_
        refine dn_leaf ?_
        exact dn_lv [3, 2, 1, 0] rfl (hK18 (s0, (l3 + 1)))
      have hj38 : ∀ (l3 : Int32), jX13_isHeld w x b 38 0 0 [(0, dnV b l0), (1, .int l1), (3, .int l3)] [] (dnB (fX13_isHeld_j38 l0 l1 l3) (dnKo K18 E18)) := by
        intro l3
        unfold fX13_isHeld_j38
        refine dn_iconst (pc := 38) (v := 1) dX13_isHeld_38 rfl ?_
        refine dn_goto (pc := 39) 43 dX13_isHeld_39 rfl ?_
        exact dn_lv [0, 1, 2] rfl (hj43 l3 true)
      refine dn_iload_n (pc := 18) 3 dX13_isHeld_18 rfl ?_
      refine dn_bipush (pc := 19) (v := 24) dX13_isHeld_19 rfl ?_
      refine dn_icmp_ge (pc := 21) 50 dX13_isHeld_21 rfl (fun _ => ?_) (fun _ => ?_)
      · refine dn_leaf ?_
        exact dn_lv [2] rfl (hE18 s18.1)
      · refine dn_iload_n (pc := 24) 2 dX13_isHeld_24 rfl ?_
        refine dn_ifz_ne (pc := 25) 38 dX13_isHeld_25 rfl (fun _ => ?_) (fun _ => ?_)
        · exact dn_lv [0, 1, 3] rfl (hj38 s18.2)
        · refine dn_aload_n (pc := 28) l0 0 dX13_isHeld_28 rfl ?_
          refine dn_getR (pc := 29) l0 lRX13_20 dX13_isHeld_29 (fun v1 => ?_)
          refine dn_iload_n (pc := 32) 3 dX13_isHeld_32 rfl ?_
          refine dn_iald (pc := 33) v1 dX13_isHeld_33 (fun v2 => ?_)
          refine dn_iload_n (pc := 34) 1 dX13_isHeld_34 rfl ?_
          refine dn_icmp_ne (pc := 35) 42 dX13_isHeld_35 rfl (fun _ => ?_) (fun _ => ?_)
          · refine dn_iconst (pc := 42) (v := 0) dX13_isHeld_42 rfl ?_
            exact dn_lv [0, 1, 3] rfl (hj43 s18.2 false)
          · exact dn_lv [0, 1, 3] rfl (hj38 s18.2)
    · refine dn_iload_n (pc := 50) 0 dX13_isHeld_50 rfl ?_
      exact dn_ret (Nat.le_of_ble_eq_true rfl) (Nat.le_of_ble_eq_true rfl) rfl dX13_isHeld_51
  refine dn_aload_n (pc := 0) r0 0 dX13_isHeld_0 rfl ?_
  refine dn_getR (pc := 1) r0 lRX13_29 dX13_isHeld_1 (fun v3 => ?_)
  refine dn_iload_n (pc := 4) 1 dX13_isHeld_4 rfl ?_
  refine dn_iald (pc := 5) v3 dX13_isHeld_5 (fun v4 => ?_)
  refine dn_iconst (pc := 6) (v := 1) dX13_isHeld_6 rfl ?_
  refine dn_icmp_ne (pc := 7) 14 dX13_isHeld_7 rfl (fun _ => ?_) (fun _ => ?_)
  · refine dn_iconst (pc := 14) (v := 0) dX13_isHeld_14 rfl ?_
    exact dn_lv [0, 1] rfl (hj15 r0 p1 false)
  · refine dn_iconst (pc := 10) (v := 1) dX13_isHeld_10 rfl ?_
    refine dn_goto (pc := 11) 15 dX13_isHeld_11 rfl ?_
    exact dn_lv [0, 1] rfl (hj15 r0 p1 true)
abbrev rmX13_newRow : Room := { frames := 1, cells := 0, slots := 0, locals := 23 }
def fX13_newRow_j76 (l0 : Option Nat) (l1 : Int32) (l3 : Int32) (l4 : Int32) (s0 : Option Nat) (s1 : Int32) (s2 : Int32) : dnM ((Int32) ⊕ (Unit)) :=
  dnB (dnTI s0 100 s1 s2) fun _ =>
  dnB (dnGR l0 11 10) fun v4 =>
  dnB (dnTL v4 102 ((12 * l3) + l4) 0) fun _ =>
  dnB (dnGR l0 11 11) fun v5 =>
  dnB (dnTD v5 103 ((12 * l3) + l4) FP.dconst0) fun _ =>
  dnP (.inl (l4 + 1))
def fX13_newRow_b46 (c0 : Option Nat) (c1 : Int32) (c3 : Int32) (s46 : Int32) : dnM ((Int32) ⊕ (Unit)) :=
  if 12 ≤ s46 then
  (dnP (.inr ()))
  else
  (dnB (dnGR c0 11 9) fun v6 =>
  if 8 ≤ c1 then
  (fX13_newRow_j76 c0 c1 c3 s46 v6 ((12 * c3) + s46) 11)
  else
  (fX13_newRow_j76 c0 c1 c3 s46 v6 ((12 * c3) + s46) c1))
def fX13_newRow_j22 (l0 : Option Nat) (l1 : Int32) (l2 : Int32) (l3 : Int32) : dnM Int32 :=
  dnB (dnGR l0 11 8) fun v1 =>
  dnB (dnTI v1 100 l3 1) fun _ =>
  dnB (dnGR l0 11 6) fun v2 =>
  dnB (dnTI v2 100 l3 l1) fun _ =>
  dnB (dnGR l0 11 7) fun v3 =>
  dnB (dnTI v3 100 l3 l2) fun _ =>
  dnB (dnIt 1000 (fX13_newRow_b46 l0 l1 l3) 0) fun q46 =>
  dnP l3
def fX13_newRow_b2 (c0 : Option Nat) (c1 : Int32) (c2 : Int32) (s2 : Int32) : dnM ((Int32) ⊕ (Int32)) :=
  if 31 ≤ s2 then
  (dnP (.inr s2))
  else
  (dnB (dnCv c0 11 (fX13_isHeld c0 s2)) fun v7 =>
  if v7 = true then
  (dnP (.inl (s2 + 1)))
  else
  (dnP (.inr s2)))
def fX13_newRow (r0 : Option Nat) (p1 : Int32) (p2 : Int32) : dnM Int32 :=
  dnB (dnIt 1000 (fX13_newRow_b2 r0 p1 p2) 0) fun q2 =>
  fX13_newRow_j22 r0 p1 p2 q2
abbrev jX13_newRow (w : dnWd) (x : dnX) (b : Nat) := dnD w x b (fun _ => True) cX13_newRow RX13 5 rmX13_newRow "newRow" eI
set_option maxHeartbeats 4000000 in
set_option maxRecDepth 100000 in
theorem mX13_newRow (w : dnWd) (x : dnX) (b : Nat) (r0 : Option Nat) (p1 : Int32) (p2 : Int32) : dnMt w x b yX13_newRow cX13_newRow 5 (some .int) rmX13_newRow eI [dnV b r0, .int p1, .int p2] (fX13_newRow r0 p1 p2) := by
  have hlv : lv_args 0 [dnV b r0, .int p1, .int p2] = [(0, dnV b r0), (1, .int p1), (2, .int p2)] := by cases r0 <;> rfl
  refine dn_mt (by decide +kernel) roI (by cases r0 <;> exact (Nat.le_of_ble_eq_true rfl)) ?_
  rw [hlv]
  refine dn_top ?_
  show jX13_newRow w x b 0 0 0 _ [] (dnB _ dnP)
  unfold fX13_newRow
  have hj22 : ∀ (l0 : Option Nat) (l1 : Int32) (l2 : Int32) (l3 : Int32), jX13_newRow w x b 22 0 0 [(0, dnV b l0), (1, .int l1), (2, .int l2), (3, .int l3)] [] (dnB (fX13_newRow_j22 l0 l1 l2 l3) dnP) := by
    intro l0 l1 l2 l3
    unfold fX13_newRow_j22
    refine dn_aload_n (pc := 22) l0 0 dX13_newRow_22 rfl ?_
    refine dn_getR (pc := 23) l0 lRX13_29 dX13_newRow_23 (fun v1 => ?_)
    refine dn_iload_n (pc := 26) 3 dX13_newRow_26 rfl ?_
    refine dn_iconst (pc := 27) (v := 1) dX13_newRow_27 rfl ?_
    refine dn_iast (pc := 28) v1 dX13_newRow_28 ?_
    refine dn_aload_n (pc := 29) l0 0 dX13_newRow_29 rfl ?_
    refine dn_getR (pc := 30) l0 lRX13_23 dX13_newRow_30 (fun v2 => ?_)
    refine dn_iload_n (pc := 33) 3 dX13_newRow_33 rfl ?_
    refine dn_iload_n (pc := 34) 1 dX13_newRow_34 rfl ?_
    refine dn_iast (pc := 35) v2 dX13_newRow_35 ?_
    refine dn_aload_n (pc := 36) l0 0 dX13_newRow_36 rfl ?_
    refine dn_getR (pc := 37) l0 lRX13_26 dX13_newRow_37 (fun v3 => ?_)
    refine dn_iload_n (pc := 40) 3 dX13_newRow_40 rfl ?_
    refine dn_iload_n (pc := 41) 2 dX13_newRow_41 rfl ?_
    refine dn_iast (pc := 42) v3 dX13_newRow_42 ?_
    refine dn_iconst (pc := 43) (v := 0) dX13_newRow_43 rfl ?_
    refine dn_istore (pc := 44) dX13_newRow_44 (Nat.le_of_ble_eq_true rfl) (dnKp_nb 3 rfl rfl rfl (dnKp_of (lv2 := [(0, dnV b l0), (1, .int l1)]) [0, 1] rfl rfl)) ?_
    refine dn_assoc ?_
    refine dn_lv [2, 3, 1, 0] (lv2 := (fun s => [(0, dnV b l0), (1, .int l1), (3, .int l3), (4, .int s)]) 0) rfl ?_
    refine dn_loopE (pc := 46) (body := fX13_newRow_b46 l0 l1 l3) 109 (fun s => [(0, dnV b l0), (1, .int l1), (3, .int l3), (4, .int s)]) (fun q => [(3, .int l3)]) (fun s46 K46 E46 hK46 hE46 => ?_) (fun q46 => ?_) 1000 0
    · unfold fX13_newRow_b46
      have hj76 : ∀ (l4 : Int32) (s0 : Option Nat) (s1 : Int32) (s2 : Int32), jX13_newRow w x b 76 0 0 [(0, dnV b l0), (1, .int l1), (3, .int l3), (4, .int l4)] [.int s2, .int s1, dnV b s0] (dnB (fX13_newRow_j76 l0 l1 l3 l4 s0 s1 s2) (dnKo K46 E46)) := by
        intro l4 s0 s1 s2
        unfold fX13_newRow_j76
        refine dn_iast (pc := 76) s0 dX13_newRow_76 ?_
        refine dn_aload_n (pc := 77) l0 0 dX13_newRow_77 rfl ?_
        refine dn_getR (pc := 78) l0 lRX13_35 dX13_newRow_78 (fun v4 => ?_)
        refine dn_bipush (pc := 81) (v := 12) dX13_newRow_81 rfl ?_
        refine dn_iload_n (pc := 83) 2 dX13_newRow_83 rfl ?_
        refine dn_imul (pc := 84) dX13_newRow_84 ?_
        refine dn_iload (pc := 85) 3 dX13_newRow_85 rfl ?_
        refine dn_iadd (pc := 87) dX13_newRow_87 ?_
        refine dn_lconst (pc := 88) (v := 0) dX13_newRow_88 rfl ?_
        refine dn_last (pc := 89) v4 dX13_newRow_89 ?_
        refine dn_aload_n (pc := 90) l0 0 dX13_newRow_90 rfl ?_
        refine dn_getR (pc := 91) l0 lRX13_39 dX13_newRow_91 (fun v5 => ?_)
        refine dn_bipush (pc := 94) (v := 12) dX13_newRow_94 rfl ?_
        refine dn_iload_n (pc := 96) 2 dX13_newRow_96 rfl ?_
        refine dn_imul (pc := 97) dX13_newRow_97 ?_
        refine dn_iload (pc := 98) 3 dX13_newRow_98 rfl ?_
        refine dn_iadd (pc := 100) dX13_newRow_100 ?_
        refine dn_dconst0 (pc := 101) dX13_newRow_101 ?_
        refine dn_dast (pc := 102) v5 dX13_newRow_102 ?_
        refine dn_iinc (pc := 103) (l4 + 1) 3 dX13_newRow_103 rfl rfl (Nat.le_of_ble_eq_true rfl) (dnKp_nb 2 rfl rfl rfl (dnKp_of (lv2 := [(0, dnV b l0), (1, .int l1)]) [0, 1] rfl rfl)) ?_
        refine dn_goto (pc := 106) 46 dX13_newRow_106 rfl ?_
        refine dn_leaf ?_
        exact dn_lv [2, 3, 1, 0] rfl (hK46 (l4 + 1))
      refine dn_iload (pc := 46) 3 dX13_newRow_46 rfl ?_
      refine dn_bipush (pc := 48) (v := 12) dX13_newRow_48 rfl ?_
      refine dn_icmp_ge (pc := 50) 109 dX13_newRow_50 rfl (fun _ => ?_) (fun _ => ?_)
      · refine dn_leaf ?_
        exact dn_lv [2] rfl (hE46 ())
      · refine dn_aload_n (pc := 53) l0 0 dX13_newRow_53 rfl ?_
        refine dn_getR (pc := 54) l0 lRX13_32 dX13_newRow_54 (fun v6 => ?_)
        refine dn_bipush (pc := 57) (v := 12) dX13_newRow_57 rfl ?_
        refine dn_iload_n (pc := 59) 2 dX13_newRow_59 rfl ?_
        refine dn_imul (pc := 60) dX13_newRow_60 ?_
        refine dn_iload (pc := 61) 3 dX13_newRow_61 rfl ?_
        refine dn_iadd (pc := 63) dX13_newRow_63 ?_
        refine dn_iload_n (pc := 64) 1 dX13_newRow_64 rfl ?_
        refine dn_bipush (pc := 65) (v := 8) dX13_newRow_65 rfl ?_
        refine dn_icmp_ge (pc := 67) 74 dX13_newRow_67 rfl (fun _ => ?_) (fun _ => ?_)
        · refine dn_bipush (pc := 74) (v := 11) dX13_newRow_74 rfl ?_
          exact dn_lv [0, 1, 2, 3] rfl (hj76 s46 v6 ((12 * l3) + s46) 11)
        · refine dn_iload_n (pc := 70) 1 dX13_newRow_70 rfl ?_
          refine dn_goto (pc := 71) 76 dX13_newRow_71 rfl ?_
          exact dn_lv [0, 1, 2, 3] rfl (hj76 s46 v6 ((12 * l3) + s46) l1)
    · refine dn_iload_n (pc := 109) 0 dX13_newRow_109 rfl ?_
      exact dn_ret (Nat.le_of_ble_eq_true rfl) (Nat.le_of_ble_eq_true rfl) rfl dX13_newRow_110
  refine dn_iconst (pc := 0) (v := 0) dX13_newRow_0 rfl ?_
  refine dn_istore_n (pc := 1) dX13_newRow_1 (Nat.le_of_ble_eq_true rfl) (dnKp_nb 2 rfl rfl rfl (dnKp_of (lv2 := [(0, dnV b r0), (1, .int p1)]) [0, 1] rfl rfl)) ?_
  refine dn_assoc ?_
  refine dn_lv [2, 3, 1, 0] (lv2 := (fun s => [(0, dnV b r0), (1, .int p1), (2, .int p2), (3, .int s)]) 0) rfl ?_
  refine dn_loopE (pc := 2) (body := fX13_newRow_b2 r0 p1 p2) 22 (fun s => [(0, dnV b r0), (1, .int p1), (2, .int p2), (3, .int s)]) (fun q => [(0, dnV b r0), (1, .int p1), (2, .int p2), (3, .int q)]) (fun s2 K2 E2 hK2 hE2 => ?_) (fun q2 => ?_) 1000 0
  · unfold fX13_newRow_b2
    refine dn_iload_n (pc := 2) 3 dX13_newRow_2 rfl ?_
    refine dn_bipush (pc := 3) (v := 31) dX13_newRow_3 rfl ?_
    refine dn_icmp_ge (pc := 5) 22 dX13_newRow_5 rfl (fun _ => ?_) (fun _ => ?_)
    · refine dn_leaf ?_
      exact dn_lv [0, 1, 2, 3] rfl (hE2 s2)
    · refine dn_aload_n (pc := 8) r0 0 dX13_newRow_8 rfl ?_
      refine dn_iload_n (pc := 9) 3 dX13_newRow_9 rfl ?_
      refine dn_callV0Z (pc := 10) [.int s2] r0 kRX13_120 (mX13_isHeld w x b r0 s2) rfl rfl (Nat.le_of_ble_eq_true rfl) ⟨(Nat.le_of_ble_eq_true rfl), (Nat.le_of_ble_eq_true rfl)⟩ ⟨rfl, rfl, (Nat.le_of_ble_eq_true rfl), (Nat.le_of_ble_eq_true rfl)⟩ dX13_newRow_10 (fun v7 => ?_)
      refine dn_ifz_eq (pc := 13) 22 dX13_newRow_13 rfl (fun _ => ?_) (fun _ => ?_)
      · refine dn_iinc (pc := 16) (s2 + 1) 3 dX13_newRow_16 rfl rfl (Nat.le_of_ble_eq_true rfl) (dnKp_nb 2 rfl rfl rfl (dnKp_of (lv2 := [(0, dnV b r0), (1, .int p1)]) [0, 1] rfl rfl)) ?_
        refine dn_goto (pc := 19) 2 dX13_newRow_19 rfl ?_
        refine dn_leaf ?_
        exact dn_lv [2, 3, 1, 0] rfl (hK2 (s2 + 1))
      · refine dn_leaf ?_
        exact dn_lv [0, 1, 2, 3] rfl (hE2 s2)
  · exact dn_lv [0, 1, 2, 3] rfl (hj22 r0 p1 p2 q2)
abbrev rmX13_placeFault : Room := { frames := 1, cells := 0, slots := 0, locals := 22 }
def fX13_placeFault (r0 : Option Nat) (p1 : Int32) (p2 : Int32) : dnM Int32 :=
  dnB (dnGR r0 11 4) fun v1 =>
  dnB (dnAI v1 100 p1) fun v2 =>
  if 0 ≤ v2 then
  (dnB (dnGR r0 11 4) fun v3 =>
  dnB (dnAI v3 100 p1) fun v4 =>
  dnB (fX13_in p2 0 (v4 - 1)) fun v5 =>
  if v5 = true then
  (dnP 0)
  else
  (dnP (-3)))
  else
  (dnP (-2))
abbrev jX13_placeFault (w : dnWd) (x : dnX) (b : Nat) := dnD w x b (fun _ => True) cX13_placeFault RX13 3 rmX13_placeFault "placeFault" eI
set_option maxHeartbeats 4000000 in
set_option maxRecDepth 100000 in
theorem mX13_placeFault (w : dnWd) (x : dnX) (b : Nat) (r0 : Option Nat) (p1 : Int32) (p2 : Int32) : dnMt w x b yX13_placeFault cX13_placeFault 3 (some .int) rmX13_placeFault eI [dnV b r0, .int p1, .int p2] (fX13_placeFault r0 p1 p2) := by
  have hlv : lv_args 0 [dnV b r0, .int p1, .int p2] = [(0, dnV b r0), (1, .int p1), (2, .int p2)] := by cases r0 <;> rfl
  refine dn_mt (by decide +kernel) roI (by cases r0 <;> exact (Nat.le_of_ble_eq_true rfl)) ?_
  rw [hlv]
  refine dn_top ?_
  show jX13_placeFault w x b 0 0 0 _ [] (dnB _ dnP)
  unfold fX13_placeFault
  refine dn_aload_n (pc := 0) r0 0 dX13_placeFault_0 rfl ?_
  refine dn_getR (pc := 1) r0 lRX13_17 dX13_placeFault_1 (fun v1 => ?_)
  refine dn_iload_n (pc := 4) 1 dX13_placeFault_4 rfl ?_
  refine dn_iald (pc := 5) v1 dX13_placeFault_5 (fun v2 => ?_)
  refine dn_if_ge (pc := 6) 14 dX13_placeFault_6 rfl (fun _ => ?_) (fun _ => ?_)
  · refine dn_iload_n (pc := 14) 2 dX13_placeFault_14 rfl ?_
    refine dn_iconst (pc := 15) (v := 0) dX13_placeFault_15 rfl ?_
    refine dn_aload_n (pc := 16) r0 0 dX13_placeFault_16 rfl ?_
    refine dn_getR (pc := 17) r0 lRX13_17 dX13_placeFault_17 (fun v3 => ?_)
    refine dn_iload_n (pc := 20) 1 dX13_placeFault_20 rfl ?_
    refine dn_iald (pc := 21) v3 dX13_placeFault_21 (fun v4 => ?_)
    refine dn_iconst (pc := 22) (v := 1) dX13_placeFault_22 rfl ?_
    refine dn_isub (pc := 23) dX13_placeFault_23 ?_
    refine dn_callS0Z (pc := 24) [.int p2, .int 0, .int (v4 - 1)]  kRX13_109 (mX13_in w x b p2 0 (v4 - 1)) rfl rfl (Nat.le_of_ble_eq_true rfl) ⟨(Nat.le_of_ble_eq_true rfl), (Nat.le_of_ble_eq_true rfl)⟩ ⟨rfl, rfl, (Nat.le_of_ble_eq_true rfl), (Nat.le_of_ble_eq_true rfl)⟩ dX13_placeFault_24 (fun v5 => ?_)
    refine dn_ifz_eq (pc := 27) 34 dX13_placeFault_27 rfl (fun _ => ?_) (fun _ => ?_)
    · refine dn_iconst (pc := 30) (v := 0) dX13_placeFault_30 rfl ?_
      refine dn_goto (pc := 31) 36 dX13_placeFault_31 rfl ?_
      exact dn_ret (Nat.le_of_ble_eq_true rfl) (Nat.le_of_ble_eq_true rfl) rfl dX13_placeFault_36
    · refine dn_bipush (pc := 34) (v := -3) dX13_placeFault_34 rfl ?_
      exact dn_ret (Nat.le_of_ble_eq_true rfl) (Nat.le_of_ble_eq_true rfl) rfl dX13_placeFault_36
  · refine dn_bipush (pc := 9) (v := -2) dX13_placeFault_9 rfl ?_
    refine dn_goto (pc := 11) 36 dX13_placeFault_11 rfl ?_
    exact dn_ret (Nat.le_of_ble_eq_true rfl) (Nat.le_of_ble_eq_true rfl) rfl dX13_placeFault_36
abbrev rmX13_rowFault : Room := { frames := 2, cells := 0, slots := 0, locals := 44 }
def fX13_rowFault (r0 : Option Nat) (p1 : Int32) (p2 : Int32) : dnM Int32 :=
  dnB (dnCv r0 11 (fX13_placeFault r0 p1 p2)) fun v1 =>
  if v1 = 0 then
  (dnB (dnCv r0 11 (fX13_held r0 p1 p2)) fun v2 =>
  if ¬ v2 = (-1) then
  (if 0 ≤ v2 then
  (dnP 0)
  else
  (dnP (-5)))
  else
  (dnP (-4)))
  else
  (dnP v1)
abbrev jX13_rowFault (w : dnWd) (x : dnX) (b : Nat) := dnD w x b (fun _ => True) cX13_rowFault RX13 5 rmX13_rowFault "rowFault" eI
set_option maxHeartbeats 4000000 in
set_option maxRecDepth 100000 in
theorem mX13_rowFault (w : dnWd) (x : dnX) (b : Nat) (r0 : Option Nat) (p1 : Int32) (p2 : Int32) : dnMt w x b yX13_rowFault cX13_rowFault 5 (some .int) rmX13_rowFault eI [dnV b r0, .int p1, .int p2] (fX13_rowFault r0 p1 p2) := by
  have hlv : lv_args 0 [dnV b r0, .int p1, .int p2] = [(0, dnV b r0), (1, .int p1), (2, .int p2)] := by cases r0 <;> rfl
  refine dn_mt (by decide +kernel) roI (by cases r0 <;> exact (Nat.le_of_ble_eq_true rfl)) ?_
  rw [hlv]
  refine dn_top ?_
  show jX13_rowFault w x b 0 0 0 _ [] (dnB _ dnP)
  unfold fX13_rowFault
  refine dn_aload_n (pc := 0) r0 0 dX13_rowFault_0 rfl ?_
  refine dn_iload_n (pc := 1) 1 dX13_rowFault_1 rfl ?_
  refine dn_iload_n (pc := 2) 2 dX13_rowFault_2 rfl ?_
  refine dn_callV0I (pc := 3) [.int p1, .int p2] r0 kRX13_124 (mX13_placeFault w x b r0 p1 p2) rfl rfl (Nat.le_of_ble_eq_true rfl) ⟨(Nat.le_of_ble_eq_true rfl), (Nat.le_of_ble_eq_true rfl)⟩ ⟨rfl, rfl, (Nat.le_of_ble_eq_true rfl), (Nat.le_of_ble_eq_true rfl)⟩ dX13_rowFault_3 (fun v1 => ?_)
  refine dn_istore_n (pc := 6) dX13_rowFault_6 (Nat.le_of_ble_eq_true rfl) (dnKp_nb 2 rfl rfl rfl (dnKp_of (lv2 := [(0, dnV b r0), (1, .int p1)]) [0, 1] rfl rfl)) ?_
  refine dn_iload_n (pc := 7) 0 dX13_rowFault_7 rfl ?_
  refine dn_if_eq (pc := 8) 13 dX13_rowFault_8 rfl (fun _ => ?_) (fun _ => ?_)
  · refine dn_aload_n (pc := 13) r0 2 dX13_rowFault_13 rfl ?_
    refine dn_iload_n (pc := 14) 3 dX13_rowFault_14 rfl ?_
    refine dn_iload_n (pc := 15) 1 dX13_rowFault_15 rfl ?_
    refine dn_callV0I (pc := 16) [.int p1, .int p2] r0 kRX13_128 (mX13_held w x b r0 p1 p2) rfl rfl (Nat.le_of_ble_eq_true rfl) ⟨(Nat.le_of_ble_eq_true rfl), (Nat.le_of_ble_eq_true rfl)⟩ ⟨rfl, rfl, (Nat.le_of_ble_eq_true rfl), (Nat.le_of_ble_eq_true rfl)⟩ dX13_rowFault_16 (fun v2 => ?_)
    refine dn_istore (pc := 19) dX13_rowFault_19 (Nat.le_of_ble_eq_true rfl) (dnKp_of (lv2 := []) [] rfl rfl) ?_
    refine dn_iload (pc := 21) 0 dX13_rowFault_21 rfl ?_
    refine dn_iconst (pc := 23) (v := -1) dX13_rowFault_23 rfl ?_
    refine dn_icmp_ne (pc := 24) 32 dX13_rowFault_24 rfl (fun _ => ?_) (fun _ => ?_)
    · refine dn_iload (pc := 32) 0 dX13_rowFault_32 rfl ?_
      refine dn_if_ge (pc := 34) 42 dX13_rowFault_34 rfl (fun _ => ?_) (fun _ => ?_)
      · refine dn_iconst (pc := 42) (v := 0) dX13_rowFault_42 rfl ?_
        exact dn_ret (Nat.le_of_ble_eq_true rfl) (Nat.le_of_ble_eq_true rfl) rfl dX13_rowFault_43
      · refine dn_bipush (pc := 37) (v := -5) dX13_rowFault_37 rfl ?_
        refine dn_goto (pc := 39) 43 dX13_rowFault_39 rfl ?_
        exact dn_ret (Nat.le_of_ble_eq_true rfl) (Nat.le_of_ble_eq_true rfl) rfl dX13_rowFault_43
    · refine dn_bipush (pc := 27) (v := -4) dX13_rowFault_27 rfl ?_
      refine dn_goto (pc := 29) 43 dX13_rowFault_29 rfl ?_
      exact dn_ret (Nat.le_of_ble_eq_true rfl) (Nat.le_of_ble_eq_true rfl) rfl dX13_rowFault_43
  · refine dn_iload_n (pc := 11) 0 dX13_rowFault_11 rfl ?_
    exact dn_ret (Nat.le_of_ble_eq_true rfl) (Nat.le_of_ble_eq_true rfl) rfl dX13_rowFault_12
abbrev rmX13_aboveDeed : Room := { frames := 3, cells := 0, slots := 0, locals := 68 }
def fX13_aboveDeed_j159 (l0 : Option Nat) (l1 : Int32) (l3 : Int32) (l4 : Int64) (l6 : Int32) (l8 : Int32) (l9 : Int32) (l11 : Int32) (s0 : Int32) (s1 : Bool) : dnM ((Int32 × Int32) ⊕ (Int32)) :=
  dnP (.inl ((s0 + (dnZ s1)), (l11 + 1)))
def fX13_aboveDeed_j146 (l0 : Option Nat) (l1 : Int32) (l3 : Int32) (l4 : Int64) (l6 : Int32) (l8 : Int32) (l9 : Int32) (l10 : Int32) (l11 : Int32) (l12 : Bool) (s0 : Option Nat) (s1 : Int32) (s2 : Int64) : dnM ((Int32 × Int32) ⊕ (Int32)) :=
  dnB (dnTL s0 102 s1 s2) fun _ =>
  if l12 = true then
  (fX13_aboveDeed_j159 l0 l1 l3 l4 l6 l8 l9 l11 l10 true)
  else
  (fX13_aboveDeed_j159 l0 l1 l3 l4 l6 l8 l9 l11 l10 false)
def fX13_aboveDeed_b99 (c0 : Option Nat) (c1 : Int32) (c3 : Int32) (c4 : Int64) (c6 : Int32) (c8 : Int32) (c9 : Int32) (s99 : Int32 × Int32) : dnM ((Int32 × Int32) ⊕ (Int32)) :=
  dnB (dnGR c0 11 7) fun v5 =>
  dnB (dnAI v5 100 c8) fun v6 =>
  if v6 ≤ s99.2 then
  (dnP (.inr s99.1))
  else
  (dnB (dnCv c0 11 (fX13_isAbove c0 c8 s99.2 c3 c4)) fun v7 =>
  dnB (dnGR c0 11 10) fun v8 =>
  if v7 = true then
  (fX13_aboveDeed_j146 c0 c1 c3 c4 c6 c8 c9 s99.1 s99.2 v7 v8 ((12 * c9) + s99.2) 1)
  else
  (fX13_aboveDeed_j146 c0 c1 c3 c4 c6 c8 c9 s99.1 s99.2 v7 v8 ((12 * c9) + s99.2) 0))
def fX13_aboveDeed_j66 (l0 : Option Nat) (l1 : Int32) (l3 : Int32) (l4 : Int64) (l6 : Int32) (l8 : Int32) : dnM Int32 :=
  dnB (dnCv l0 11 (fX13_placeFault l0 l1 l6)) fun v1 =>
  if v1 = 0 then
  (dnB (dnGR l0 11 7) fun v2 =>
  dnB (dnAI v2 100 l8) fun v3 =>
  dnB (dnCv l0 11 (fX13_newRow l0 0 v3)) fun v4 =>
  dnB (dnIt 1000 (fX13_aboveDeed_b99 l0 l1 l3 l4 l6 l8 v4) (0, 0)) fun q99 =>
  dnB (dnCv l0 11 (fX13_holdsNow l0 l1 l6 v4)) fun _ =>
  dnP q99)
  else
  (dnP (-3))
def fX13_aboveDeed (r0 : Option Nat) (p1 : Int32) (p2 : Int32) (p3 : Int32) (p4 : Int64) (p6 : Int32) : dnM Int32 :=
  dnB (fX13_isGrid p1) fun v10 =>
  if v10 = true then
  (dnB (fX13_in p3 4 7) fun v11 =>
  if v11 = true then
  (dnB (dnCv r0 11 (fX13_rowFault r0 p1 p2)) fun v12 =>
  if v12 = 0 then
  (dnB (dnCv r0 11 (fX13_held r0 p1 p2)) fun v13 =>
  dnB (dnGR r0 11 7) fun v14 =>
  dnB (dnAI v14 100 v13) fun v15 =>
  if v15 ≤ 0 then
  (fX13_aboveDeed_j66 r0 p1 p3 p4 p6 v13)
  else
  (dnB (dnCv r0 11 (fX13_isReadable r0 v13 p3)) fun v16 =>
  if v16 = true then
  (fX13_aboveDeed_j66 r0 p1 p3 p4 p6 v13)
  else
  (dnP (-7))))
  else
  (dnP v12))
  else
  (dnP (-1)))
  else
  (dnP (-1))
abbrev jX13_aboveDeed (w : dnWd) (x : dnX) (b : Nat) := dnD w x b (fun _ => True) cX13_aboveDeed RX13 13 rmX13_aboveDeed "aboveDeed" eI
set_option maxHeartbeats 4000000 in
set_option maxRecDepth 100000 in
theorem mX13_aboveDeed (w : dnWd) (x : dnX) (b : Nat) (r0 : Option Nat) (p1 : Int32) (p2 : Int32) (p3 : Int32) (p4 : Int64) (p6 : Int32) : dnMt w x b yX13_aboveDeed cX13_aboveDeed 13 (some .int) rmX13_aboveDeed eI [dnV b r0, .int p1, .int p2, .int p3, .long p4, .int p6] (fX13_aboveDeed r0 p1 p2 p3 p4 p6) := by
  have hlv : lv_args 0 [dnV b r0, .int p1, .int p2, .int p3, .long p4, .int p6] = [(0, dnV b r0), (1, .int p1), (2, .int p2), (3, .int p3), (4, .long p4), (6, .int p6)] := by cases r0 <;> rfl
  refine dn_mt (by decide +kernel) roI (by cases r0 <;> exact (Nat.le_of_ble_eq_true rfl)) ?_
  rw [hlv]
  refine dn_top ?_
  show jX13_aboveDeed w x b 0 0 0 _ [] (dnB _ dnP)
  unfold fX13_aboveDeed
  have hj66 : ∀ (l0 : Option Nat) (l1 : Int32) (l3 : Int32) (l4 : Int64) (l6 : Int32) (l8 : Int32), jX13_aboveDeed w x b 66 0 0 [(0, dnV b l0), (1, .int l1), (3, .int l3), (4, .long l4), (6, .int l6), (8, .int l8)] [] (dnB (fX13_aboveDeed_j66 l0 l1 l3 l4 l6 l8) dnP) := by
    intro l0 l1 l3 l4 l6 l8
    unfold fX13_aboveDeed_j66
    refine dn_aload_n (pc := 66) l0 0 dX13_aboveDeed_66 rfl ?_
    refine dn_iload_n (pc := 67) 1 dX13_aboveDeed_67 rfl ?_
    refine dn_iload (pc := 68) 4 dX13_aboveDeed_68 rfl ?_
    refine dn_callV0I (pc := 70) [.int l1, .int l6] l0 kRX13_124 (mX13_placeFault w x b l0 l1 l6) rfl rfl (Nat.le_of_ble_eq_true rfl) ⟨(Nat.le_of_ble_eq_true rfl), (Nat.le_of_ble_eq_true rfl)⟩ ⟨rfl, rfl, (Nat.le_of_ble_eq_true rfl), (Nat.le_of_ble_eq_true rfl)⟩ dX13_aboveDeed_70 (fun v1 => ?_)
    refine dn_if_eq (pc := 73) 79 dX13_aboveDeed_73 rfl (fun _ => ?_) (fun _ => ?_)
    · refine dn_aload_n (pc := 79) l0 0 dX13_aboveDeed_79 rfl ?_
      refine dn_iconst (pc := 80) (v := 0) dX13_aboveDeed_80 rfl ?_
      refine dn_aload_n (pc := 81) l0 0 dX13_aboveDeed_81 rfl ?_
      refine dn_getR (pc := 82) l0 lRX13_26 dX13_aboveDeed_82 (fun v2 => ?_)
      refine dn_iload (pc := 85) 5 dX13_aboveDeed_85 rfl ?_
      refine dn_iald (pc := 87) v2 dX13_aboveDeed_87 (fun v3 => ?_)
      refine dn_callV0I (pc := 88) [.int 0, .int v3] l0 kRX13_155 (mX13_newRow w x b l0 0 v3) rfl rfl (Nat.le_of_ble_eq_true rfl) ⟨(Nat.le_of_ble_eq_true rfl), (Nat.le_of_ble_eq_true rfl)⟩ ⟨rfl, rfl, (Nat.le_of_ble_eq_true rfl), (Nat.le_of_ble_eq_true rfl)⟩ dX13_aboveDeed_88 (fun v4 => ?_)
      refine dn_istore (pc := 91) dX13_aboveDeed_91 (Nat.le_of_ble_eq_true rfl) (dnKp_nb 5 rfl rfl rfl (dnKp_of (lv2 := [(0, dnV b l0), (1, .int l1), (3, .int l3), (4, .long l4), (6, .int l6)]) [0, 1, 2, 3, 4] rfl rfl)) ?_
      refine dn_iconst (pc := 93) (v := 0) dX13_aboveDeed_93 rfl ?_
      refine dn_istore (pc := 94) dX13_aboveDeed_94 (Nat.le_of_ble_eq_true rfl) (dnKp_nb 0 rfl rfl rfl (dnKp_of (lv2 := [(8, .int l8), (0, dnV b l0), (1, .int l1), (3, .int l3), (4, .long l4), (6, .int l6)]) [1, 2, 3, 4, 5, 6] rfl rfl)) ?_
      refine dn_iconst (pc := 96) (v := 0) dX13_aboveDeed_96 rfl ?_
      refine dn_istore (pc := 97) dX13_aboveDeed_97 (Nat.le_of_ble_eq_true rfl) (dnKp_nb 0 rfl rfl rfl (dnKp_of (lv2 := [(9, .int v4), (8, .int l8), (0, dnV b l0), (1, .int l1), (3, .int l3), (4, .long l4), (6, .int l6)]) [1, 2, 3, 4, 5, 6, 7] rfl rfl)) ?_
      refine dn_assoc ?_
      refine dn_lv [4, 5, 6, 7, 8, 3, 2, 1, 0] (lv2 := (fun s => [(0, dnV b l0), (1, .int l1), (3, .int l3), (4, .long l4), (6, .int l6), (8, .int l8), (9, .int v4), (10, .int s.1), (11, .int s.2)]) (0, 0)) rfl ?_
      refine dn_loopE (pc := 99) (body := fX13_aboveDeed_b99 l0 l1 l3 l4 l6 l8 v4) 168 (fun s => [(0, dnV b l0), (1, .int l1), (3, .int l3), (4, .long l4), (6, .int l6), (8, .int l8), (9, .int v4), (10, .int s.1), (11, .int s.2)]) (fun q => [(0, dnV b l0), (1, .int l1), (6, .int l6), (9, .int v4), (10, .int q)]) (fun s99 K99 E99 hK99 hE99 => ?_) (fun q99 => ?_) 1000 (0, 0)
      · unfold fX13_aboveDeed_b99
        have hj159 : ∀ (l11 : Int32) (s0 : Int32) (s1 : Bool), jX13_aboveDeed w x b 159 0 0 [(0, dnV b l0), (1, .int l1), (3, .int l3), (4, .long l4), (6, .int l6), (8, .int l8), (9, .int v4), (11, .int l11)] [.int (dnZ s1), .int s0] (dnB (fX13_aboveDeed_j159 l0 l1 l3 l4 l6 l8 v4 l11 s0 s1) (dnKo K99 E99)) := by
          intro l11 s0 s1
          unfold fX13_aboveDeed_j159
          refine dn_iadd (pc := 159) dX13_aboveDeed_159 ?_
          refine dn_istore (pc := 160) dX13_aboveDeed_160 (Nat.le_of_ble_eq_true rfl) (dnKp_nb 6 rfl rfl rfl (dnKp_of (lv2 := [(0, dnV b l0), (1, .int l1), (3, .int l3), (4, .long l4), (6, .int l6), (8, .int l8), (11, .int l11)]) [0, 1, 2, 3, 4, 5, 7] rfl rfl)) ?_
          refine dn_iinc (pc := 162) (l11 + 1) 8 dX13_aboveDeed_162 rfl rfl (Nat.le_of_ble_eq_true rfl) (dnKp_nb 0 rfl rfl rfl (dnKp_of (lv2 := [(9, .int v4), (0, dnV b l0), (1, .int l1), (3, .int l3), (4, .long l4), (6, .int l6), (8, .int l8)]) [1, 2, 3, 4, 5, 6, 7] rfl rfl)) ?_
          refine dn_goto (pc := 165) 99 dX13_aboveDeed_165 rfl ?_
          refine dn_leaf ?_
          exact dn_lv [3, 4, 5, 6, 7, 8, 2, 1, 0] rfl (hK99 ((s0 + (dnZ s1)), (l11 + 1)))
        have hj146 : ∀ (l10 : Int32) (l11 : Int32) (l12 : Bool) (s0 : Option Nat) (s1 : Int32) (s2 : Int64), jX13_aboveDeed w x b 146 0 0 [(0, dnV b l0), (1, .int l1), (3, .int l3), (4, .long l4), (6, .int l6), (8, .int l8), (9, .int v4), (10, .int l10), (11, .int l11), (12, .int (dnZ l12))] [.long s2, .int s1, dnV b s0] (dnB (fX13_aboveDeed_j146 l0 l1 l3 l4 l6 l8 v4 l10 l11 l12 s0 s1 s2) (dnKo K99 E99)) := by
          intro l10 l11 l12 s0 s1 s2
          unfold fX13_aboveDeed_j146
          refine dn_last (pc := 146) s0 dX13_aboveDeed_146 ?_
          refine dn_iload (pc := 147) 7 dX13_aboveDeed_147 rfl ?_
          refine dn_iload (pc := 149) 9 dX13_aboveDeed_149 rfl ?_
          refine dn_ifz_eq (pc := 151) 158 dX13_aboveDeed_151 rfl (fun _ => ?_) (fun _ => ?_)
          · refine dn_iconst (pc := 154) (v := 1) dX13_aboveDeed_154 rfl ?_
            refine dn_goto (pc := 155) 159 dX13_aboveDeed_155 rfl ?_
            exact dn_lv [0, 1, 2, 3, 4, 5, 6, 8] rfl (hj159 l11 l10 true)
          · refine dn_iconst (pc := 158) (v := 0) dX13_aboveDeed_158 rfl ?_
            exact dn_lv [0, 1, 2, 3, 4, 5, 6, 8] rfl (hj159 l11 l10 false)
        refine dn_iload (pc := 99) 8 dX13_aboveDeed_99 rfl ?_
        refine dn_aload_n (pc := 101) l0 0 dX13_aboveDeed_101 rfl ?_
        refine dn_getR (pc := 102) l0 lRX13_26 dX13_aboveDeed_102 (fun v5 => ?_)
        refine dn_iload (pc := 105) 5 dX13_aboveDeed_105 rfl ?_
        refine dn_iald (pc := 107) v5 dX13_aboveDeed_107 (fun v6 => ?_)
        refine dn_icmp_ge (pc := 108) 168 dX13_aboveDeed_108 rfl (fun _ => ?_) (fun _ => ?_)
        · refine dn_leaf ?_
          exact dn_lv [0, 1, 4, 6, 7] rfl (hE99 s99.1)
        · refine dn_aload_n (pc := 111) l0 0 dX13_aboveDeed_111 rfl ?_
          refine dn_iload (pc := 112) 5 dX13_aboveDeed_112 rfl ?_
          refine dn_iload (pc := 114) 8 dX13_aboveDeed_114 rfl ?_
          refine dn_iload_n (pc := 116) 2 dX13_aboveDeed_116 rfl ?_
          refine dn_lload (pc := 117) 3 dX13_aboveDeed_117 rfl ?_
          refine dn_callV0Z (pc := 119) [.int l8, .int s99.2, .int l3, .long l4] l0 kRX13_325 (mX13_isAbove w x b l0 l8 s99.2 l3 l4) rfl rfl (Nat.le_of_ble_eq_true rfl) ⟨(Nat.le_of_ble_eq_true rfl), (Nat.le_of_ble_eq_true rfl)⟩ ⟨rfl, rfl, (Nat.le_of_ble_eq_true rfl), (Nat.le_of_ble_eq_true rfl)⟩ dX13_aboveDeed_119 (fun v7 => ?_)
          refine dn_istore (pc := 122) dX13_aboveDeed_122 (Nat.le_of_ble_eq_true rfl) (dnKp_nb 8 rfl rfl rfl (dnKp_of (lv2 := [(0, dnV b l0), (1, .int l1), (3, .int l3), (4, .long l4), (6, .int l6), (8, .int l8), (9, .int v4), (10, .int s99.1)]) [0, 1, 2, 3, 4, 5, 6, 7] rfl rfl)) ?_
          refine dn_aload_n (pc := 124) l0 2 dX13_aboveDeed_124 rfl ?_
          refine dn_getR (pc := 125) l0 lRX13_35 dX13_aboveDeed_125 (fun v8 => ?_)
          refine dn_bipush (pc := 128) (v := 12) dX13_aboveDeed_128 rfl ?_
          refine dn_iload (pc := 130) 8 dX13_aboveDeed_130 rfl ?_
          refine dn_imul (pc := 132) dX13_aboveDeed_132 ?_
          refine dn_iload (pc := 133) 1 dX13_aboveDeed_133 rfl ?_
          refine dn_iadd (pc := 135) dX13_aboveDeed_135 ?_
          refine dn_iload (pc := 136) 0 dX13_aboveDeed_136 rfl ?_
          refine dn_ifz_eq (pc := 138) 145 dX13_aboveDeed_138 rfl (fun _ => ?_) (fun _ => ?_)
          · refine dn_lconst (pc := 141) (v := 1) dX13_aboveDeed_141 rfl ?_
            refine dn_goto (pc := 142) 146 dX13_aboveDeed_142 rfl ?_
            exact dn_lv [2, 3, 4, 5, 6, 7, 8, 9, 1, 0] rfl (hj146 s99.1 s99.2 v7 v8 ((12 * v4) + s99.2) 1)
          · refine dn_lconst (pc := 145) (v := 0) dX13_aboveDeed_145 rfl ?_
            exact dn_lv [2, 3, 4, 5, 6, 7, 8, 9, 1, 0] rfl (hj146 s99.1 s99.2 v7 v8 ((12 * v4) + s99.2) 0)
      · refine dn_aload_n (pc := 168) l0 0 dX13_aboveDeed_168 rfl ?_
        refine dn_iload_n (pc := 169) 1 dX13_aboveDeed_169 rfl ?_
        refine dn_iload (pc := 170) 2 dX13_aboveDeed_170 rfl ?_
        refine dn_iload (pc := 172) 3 dX13_aboveDeed_172 rfl ?_
        refine dn_callV0U (pc := 174) [.int l1, .int l6, .int v4] l0 kRX13_145 (mX13_holdsNow w x b l0 l1 l6 v4) rfl rfl (Nat.le_of_ble_eq_true rfl) ⟨(Nat.le_of_ble_eq_true rfl), (Nat.le_of_ble_eq_true rfl)⟩ ⟨rfl, rfl, (Nat.le_of_ble_eq_true rfl), (Nat.le_of_ble_eq_true rfl)⟩ dX13_aboveDeed_174 (fun _ => ?_)
        refine dn_iload (pc := 177) 4 dX13_aboveDeed_177 rfl ?_
        exact dn_ret (Nat.le_of_ble_eq_true rfl) (Nat.le_of_ble_eq_true rfl) rfl dX13_aboveDeed_179
    · refine dn_bipush (pc := 76) (v := -3) dX13_aboveDeed_76 rfl ?_
      exact dn_ret (Nat.le_of_ble_eq_true rfl) (Nat.le_of_ble_eq_true rfl) rfl dX13_aboveDeed_78
  refine dn_iload_n (pc := 0) 1 dX13_aboveDeed_0 rfl ?_
  refine dn_callS0Z (pc := 1) [.int p1]  kRX13_134 (mX13_isGrid w x b p1) rfl rfl (Nat.le_of_ble_eq_true rfl) ⟨(Nat.le_of_ble_eq_true rfl), (Nat.le_of_ble_eq_true rfl)⟩ ⟨rfl, rfl, (Nat.le_of_ble_eq_true rfl), (Nat.le_of_ble_eq_true rfl)⟩ dX13_aboveDeed_1 (fun v10 => ?_)
  refine dn_ifz_eq (pc := 4) 17 dX13_aboveDeed_4 rfl (fun _ => ?_) (fun _ => ?_)
  · refine dn_iload_n (pc := 7) 3 dX13_aboveDeed_7 rfl ?_
    refine dn_iconst (pc := 8) (v := 4) dX13_aboveDeed_8 rfl ?_
    refine dn_bipush (pc := 9) (v := 7) dX13_aboveDeed_9 rfl ?_
    refine dn_callS0Z (pc := 11) [.int p3, .int 4, .int 7]  kRX13_109 (mX13_in w x b p3 4 7) rfl rfl (Nat.le_of_ble_eq_true rfl) ⟨(Nat.le_of_ble_eq_true rfl), (Nat.le_of_ble_eq_true rfl)⟩ ⟨rfl, rfl, (Nat.le_of_ble_eq_true rfl), (Nat.le_of_ble_eq_true rfl)⟩ dX13_aboveDeed_11 (fun v11 => ?_)
    refine dn_ifz_ne (pc := 14) 19 dX13_aboveDeed_14 rfl (fun _ => ?_) (fun _ => ?_)
    · refine dn_aload_n (pc := 19) r0 0 dX13_aboveDeed_19 rfl ?_
      refine dn_iload_n (pc := 20) 1 dX13_aboveDeed_20 rfl ?_
      refine dn_iload_n (pc := 21) 2 dX13_aboveDeed_21 rfl ?_
      refine dn_callV0I (pc := 22) [.int p1, .int p2] r0 kRX13_131 (mX13_rowFault w x b r0 p1 p2) rfl rfl (Nat.le_of_ble_eq_true rfl) ⟨(Nat.le_of_ble_eq_true rfl), (Nat.le_of_ble_eq_true rfl)⟩ ⟨rfl, rfl, (Nat.le_of_ble_eq_true rfl), (Nat.le_of_ble_eq_true rfl)⟩ dX13_aboveDeed_22 (fun v12 => ?_)
      refine dn_istore (pc := 25) dX13_aboveDeed_25 (Nat.le_of_ble_eq_true rfl) (dnKp_nb 5 rfl rfl rfl (dnKp_of (lv2 := [(0, dnV b r0), (1, .int p1), (2, .int p2), (3, .int p3), (4, .long p4)]) [0, 1, 2, 3, 4] rfl rfl)) ?_
      refine dn_iload (pc := 27) 0 dX13_aboveDeed_27 rfl ?_
      refine dn_if_eq (pc := 29) 35 dX13_aboveDeed_29 rfl (fun _ => ?_) (fun _ => ?_)
      · refine dn_aload_n (pc := 35) r0 2 dX13_aboveDeed_35 rfl ?_
        refine dn_iload_n (pc := 36) 3 dX13_aboveDeed_36 rfl ?_
        refine dn_iload_n (pc := 37) 4 dX13_aboveDeed_37 rfl ?_
        refine dn_callV0I (pc := 38) [.int p1, .int p2] r0 kRX13_128 (mX13_held w x b r0 p1 p2) rfl rfl (Nat.le_of_ble_eq_true rfl) ⟨(Nat.le_of_ble_eq_true rfl), (Nat.le_of_ble_eq_true rfl)⟩ ⟨rfl, rfl, (Nat.le_of_ble_eq_true rfl), (Nat.le_of_ble_eq_true rfl)⟩ dX13_aboveDeed_38 (fun v13 => ?_)
        refine dn_istore (pc := 41) dX13_aboveDeed_41 (Nat.le_of_ble_eq_true rfl) (dnKp_of (lv2 := [(6, .int p6), (0, dnV b r0), (1, .int p1), (3, .int p3), (4, .long p4)]) [1, 2, 3, 5, 6] rfl rfl) ?_
        refine dn_aload_n (pc := 43) r0 2 dX13_aboveDeed_43 rfl ?_
        refine dn_getR (pc := 44) r0 lRX13_26 dX13_aboveDeed_44 (fun v14 => ?_)
        refine dn_iload (pc := 47) 0 dX13_aboveDeed_47 rfl ?_
        refine dn_iald (pc := 49) v14 dX13_aboveDeed_49 (fun v15 => ?_)
        refine dn_if_le (pc := 50) 66 dX13_aboveDeed_50 rfl (fun _ => ?_) (fun _ => ?_)
        · exact dn_lv [2, 3, 4, 5, 1, 0] rfl (hj66 r0 p1 p3 p4 p6 v13)
        · refine dn_aload_n (pc := 53) r0 2 dX13_aboveDeed_53 rfl ?_
          refine dn_iload (pc := 54) 0 dX13_aboveDeed_54 rfl ?_
          refine dn_iload_n (pc := 56) 4 dX13_aboveDeed_56 rfl ?_
          refine dn_callV0Z (pc := 57) [.int v13, .int p3] r0 kRX13_233 (mX13_isReadable w x b r0 v13 p3) rfl rfl (Nat.le_of_ble_eq_true rfl) ⟨(Nat.le_of_ble_eq_true rfl), (Nat.le_of_ble_eq_true rfl)⟩ ⟨rfl, rfl, (Nat.le_of_ble_eq_true rfl), (Nat.le_of_ble_eq_true rfl)⟩ dX13_aboveDeed_57 (fun v16 => ?_)
          refine dn_ifz_ne (pc := 60) 66 dX13_aboveDeed_60 rfl (fun _ => ?_) (fun _ => ?_)
          · exact dn_lv [2, 3, 4, 5, 1, 0] rfl (hj66 r0 p1 p3 p4 p6 v13)
          · refine dn_bipush (pc := 63) (v := -7) dX13_aboveDeed_63 rfl ?_
            exact dn_ret (Nat.le_of_ble_eq_true rfl) (Nat.le_of_ble_eq_true rfl) rfl dX13_aboveDeed_65
      · refine dn_iload (pc := 32) 0 dX13_aboveDeed_32 rfl ?_
        exact dn_ret (Nat.le_of_ble_eq_true rfl) (Nat.le_of_ble_eq_true rfl) rfl dX13_aboveDeed_34
    · refine dn_iconst (pc := 17) (v := -1) dX13_aboveDeed_17 rfl ?_
      exact dn_ret (Nat.le_of_ble_eq_true rfl) (Nat.le_of_ble_eq_true rfl) rfl dX13_aboveDeed_18
  · refine dn_iconst (pc := 17) (v := -1) dX13_aboveDeed_17 rfl ?_
    exact dn_ret (Nat.le_of_ble_eq_true rfl) (Nat.le_of_ble_eq_true rfl) rfl dX13_aboveDeed_18
abbrev rmX13_ends : Room := { frames := 0, cells := 0, slots := 0, locals := 0 }
def fX13_ends_b2 (c0 : Option Nat) (s2 : Int32) : dnM ((Int32) ⊕ (Unit)) :=
  if 32 ≤ s2 then
  (dnP (.inr ()))
  else
  (dnB (dnGR c0 11 8) fun v1 =>
  dnB (dnTI v1 100 s2 0) fun _ =>
  dnP (.inl (s2 + 1)))
def fX13_ends (r0 : Option Nat) : dnM Unit :=
  dnB (dnIt 1000 (fX13_ends_b2 r0) 0) fun q2 =>
  dnP ()
abbrev jX13_ends (w : dnWd) (x : dnX) (b : Nat) := dnD w x b (fun _ => True) cX13_ends RX13 2 rmX13_ends "ends" eU
set_option maxHeartbeats 4000000 in
set_option maxRecDepth 100000 in
theorem mX13_ends (w : dnWd) (x : dnX) (b : Nat) (r0 : Option Nat) : dnMt w x b yX13_ends cX13_ends 2 none rmX13_ends eU [dnV b r0] (fX13_ends r0) := by
  have hlv : lv_args 0 [dnV b r0] = [(0, dnV b r0)] := by cases r0 <;> rfl
  refine dn_mt (by decide +kernel) roU (by cases r0 <;> exact (Nat.le_of_ble_eq_true rfl)) ?_
  rw [hlv]
  refine dn_top ?_
  show jX13_ends w x b 0 0 0 _ [] (dnB _ dnP)
  unfold fX13_ends
  refine dn_iconst (pc := 0) (v := 0) dX13_ends_0 rfl ?_
  refine dn_istore_n (pc := 1) dX13_ends_1 (Nat.le_of_ble_eq_true rfl) (dnKp_nb 0 rfl (dn_cat b _) rfl (dnKp_of (lv2 := []) [] rfl rfl)) ?_
  refine dn_assoc ?_
  refine dn_lv [1, 0] (lv2 := (fun s => [(0, dnV b r0), (1, .int s)]) 0) rfl ?_
  refine dn_loopE (pc := 2) (body := fX13_ends_b2 r0) 21 (fun s => [(0, dnV b r0), (1, .int s)]) (fun q => []) (fun s2 K2 E2 hK2 hE2 => ?_) (fun q2 => ?_) 1000 0
  · unfold fX13_ends_b2
    refine dn_iload_n (pc := 2) 1 dX13_ends_2 rfl ?_
    refine dn_bipush (pc := 3) (v := 32) dX13_ends_3 rfl ?_
    refine dn_icmp_ge (pc := 5) 21 dX13_ends_5 rfl (fun _ => ?_) (fun _ => ?_)
    · refine dn_leaf ?_
      exact dn_lv [] rfl (hE2 ())
    · refine dn_aload_n (pc := 8) r0 0 dX13_ends_8 rfl ?_
      refine dn_getR (pc := 9) r0 lRX13_29 dX13_ends_9 (fun v1 => ?_)
      refine dn_iload_n (pc := 12) 1 dX13_ends_12 rfl ?_
      refine dn_iconst (pc := 13) (v := 0) dX13_ends_13 rfl ?_
      refine dn_iast (pc := 14) v1 dX13_ends_14 ?_
      refine dn_iinc (pc := 15) (s2 + 1) 1 dX13_ends_15 rfl rfl (Nat.le_of_ble_eq_true rfl) (dnKp_nb 0 rfl (dn_cat b _) rfl (dnKp_of (lv2 := []) [] rfl rfl)) ?_
      refine dn_goto (pc := 18) 2 dX13_ends_18 rfl ?_
      refine dn_leaf ?_
      exact dn_lv [1, 0] rfl (hK2 (s2 + 1))
  · exact dn_ret (Nat.le_of_ble_eq_true rfl) (Nat.le_of_ble_eq_true rfl) rfl dX13_ends_21
abbrev rmX13_said : Room := { frames := 1, cells := 0, slots := 0, locals := 22 }
def fX13_said_j27 (l0 : Option Nat) (l1 : Int32) : dnM Int32 :=
  dnB (dnCv l0 11 (fX13_ends l0)) fun _ =>
  dnP l1
def fX13_said_j16 (l0 : Option Nat) (l1 : Int32) : dnM Int32 :=
  dnB (dnGR l0 11 0) fun v2 =>
  dnB (dnAI v2 100 (-l1)) fun v3 =>
  dnB (dnTI v2 100 (-l1) (v3 + 1)) fun _ =>
  fX13_said_j27 l0 l1
def fX13_said (r0 : Option Nat) (p1 : Int32) : dnM Int32 :=
  dnB (fX13_in p1 (-8) (-1)) fun v4 =>
  if v4 = true then
  (fX13_said_j16 r0 p1)
  else
  (if ¬ p1 = (-10) then
  (fX13_said_j27 r0 p1)
  else
  (fX13_said_j16 r0 p1))
abbrev jX13_said (w : dnWd) (x : dnX) (b : Nat) := dnD w x b (fun _ => True) cX13_said RX13 2 rmX13_said "said" eI
set_option maxHeartbeats 4000000 in
set_option maxRecDepth 100000 in
theorem mX13_said (w : dnWd) (x : dnX) (b : Nat) (r0 : Option Nat) (p1 : Int32) : dnMt w x b yX13_said cX13_said 2 (some .int) rmX13_said eI [dnV b r0, .int p1] (fX13_said r0 p1) := by
  have hlv : lv_args 0 [dnV b r0, .int p1] = [(0, dnV b r0), (1, .int p1)] := by cases r0 <;> rfl
  refine dn_mt (by decide +kernel) roI (by cases r0 <;> exact (Nat.le_of_ble_eq_true rfl)) ?_
  rw [hlv]
  refine dn_top ?_
  show jX13_said w x b 0 0 0 _ [] (dnB _ dnP)
  unfold fX13_said
  have hj27 : ∀ (l0 : Option Nat) (l1 : Int32), jX13_said w x b 27 0 0 [(0, dnV b l0), (1, .int l1)] [] (dnB (fX13_said_j27 l0 l1) dnP) := by
    intro l0 l1
    unfold fX13_said_j27
    refine dn_aload_n (pc := 27) l0 0 dX13_said_27 rfl ?_
    refine dn_callV0U (pc := 28) [] l0 kRX13_113 (mX13_ends w x b l0) rfl rfl (Nat.le_of_ble_eq_true rfl) ⟨(Nat.le_of_ble_eq_true rfl), (Nat.le_of_ble_eq_true rfl)⟩ ⟨rfl, rfl, (Nat.le_of_ble_eq_true rfl), (Nat.le_of_ble_eq_true rfl)⟩ dX13_said_28 (fun _ => ?_)
    refine dn_iload_n (pc := 31) 1 dX13_said_31 rfl ?_
    exact dn_ret (Nat.le_of_ble_eq_true rfl) (Nat.le_of_ble_eq_true rfl) rfl dX13_said_32
  have hj16 : ∀ (l0 : Option Nat) (l1 : Int32), jX13_said w x b 16 0 0 [(0, dnV b l0), (1, .int l1)] [] (dnB (fX13_said_j16 l0 l1) dnP) := by
    intro l0 l1
    unfold fX13_said_j16
    refine dn_aload_n (pc := 16) l0 0 dX13_said_16 rfl ?_
    refine dn_getR (pc := 17) l0 lRX13_7 dX13_said_17 (fun v2 => ?_)
    refine dn_iload_n (pc := 20) 1 dX13_said_20 rfl ?_
    refine dn_ineg (pc := 21) dX13_said_21 ?_
    refine dn_dup2_11 (pc := 22) dX13_said_22 rfl (dn_cat b _) ?_
    refine dn_iald (pc := 23) v2 dX13_said_23 (fun v3 => ?_)
    refine dn_iconst (pc := 24) (v := 1) dX13_said_24 rfl ?_
    refine dn_iadd (pc := 25) dX13_said_25 ?_
    refine dn_iast (pc := 26) v2 dX13_said_26 ?_
    exact dn_lv [0, 1] rfl (hj27 l0 l1)
  refine dn_iload_n (pc := 0) 1 dX13_said_0 rfl ?_
  refine dn_bipush (pc := 1) (v := -8) dX13_said_1 rfl ?_
  refine dn_iconst (pc := 3) (v := -1) dX13_said_3 rfl ?_
  refine dn_callS0Z (pc := 4) [.int p1, .int (-8), .int (-1)]  kRX13_109 (mX13_in w x b p1 (-8) (-1)) rfl rfl (Nat.le_of_ble_eq_true rfl) ⟨(Nat.le_of_ble_eq_true rfl), (Nat.le_of_ble_eq_true rfl)⟩ ⟨rfl, rfl, (Nat.le_of_ble_eq_true rfl), (Nat.le_of_ble_eq_true rfl)⟩ dX13_said_4 (fun v4 => ?_)
  refine dn_ifz_ne (pc := 7) 16 dX13_said_7 rfl (fun _ => ?_) (fun _ => ?_)
  · exact dn_lv [0, 1] rfl (hj16 r0 p1)
  · refine dn_iload_n (pc := 10) 1 dX13_said_10 rfl ?_
    refine dn_bipush (pc := 11) (v := -10) dX13_said_11 rfl ?_
    refine dn_icmp_ne (pc := 13) 27 dX13_said_13 rfl (fun _ => ?_) (fun _ => ?_)
    · exact dn_lv [0, 1] rfl (hj27 r0 p1)
    · exact dn_lv [0, 1] rfl (hj16 r0 p1)
abbrev rmX13_above : Room := { frames := 4, cells := 0, slots := 0, locals := 100 }
def fX13_above (r0 : Option Nat) (p1 : Int32) (p2 : Int32) (p3 : Int32) (p4 : Int64) (p6 : Int32) : dnM Int32 :=
  dnB (dnCv r0 11 (fX13_aboveDeed r0 p1 p2 p3 p4 p6)) fun v1 =>
  dnB (dnCv r0 11 (fX13_said r0 v1)) fun v2 =>
  dnP v2
abbrev jX13_above (w : dnWd) (x : dnX) (b : Nat) := dnD w x b (fun _ => True) cX13_above RX13 7 rmX13_above "above" eI
set_option maxHeartbeats 4000000 in
set_option maxRecDepth 100000 in
theorem mX13_above (w : dnWd) (x : dnX) (b : Nat) (r0 : Option Nat) (p1 : Int32) (p2 : Int32) (p3 : Int32) (p4 : Int64) (p6 : Int32) : dnMt w x b yX13_above cX13_above 7 (some .int) rmX13_above eI [dnV b r0, .int p1, .int p2, .int p3, .long p4, .int p6] (fX13_above r0 p1 p2 p3 p4 p6) := by
  have hlv : lv_args 0 [dnV b r0, .int p1, .int p2, .int p3, .long p4, .int p6] = [(0, dnV b r0), (1, .int p1), (2, .int p2), (3, .int p3), (4, .long p4), (6, .int p6)] := by cases r0 <;> rfl
  refine dn_mt (by decide +kernel) roI (by cases r0 <;> exact (Nat.le_of_ble_eq_true rfl)) ?_
  rw [hlv]
  refine dn_top ?_
  show jX13_above w x b 0 0 0 _ [] (dnB _ dnP)
  unfold fX13_above
  refine dn_aload_n (pc := 0) r0 0 dX13_above_0 rfl ?_
  refine dn_aload_n (pc := 1) r0 0 dX13_above_1 rfl ?_
  refine dn_iload_n (pc := 2) 1 dX13_above_2 rfl ?_
  refine dn_iload_n (pc := 3) 2 dX13_above_3 rfl ?_
  refine dn_iload_n (pc := 4) 3 dX13_above_4 rfl ?_
  refine dn_lload (pc := 5) 4 dX13_above_5 rfl ?_
  refine dn_iload (pc := 7) 5 dX13_above_7 rfl ?_
  refine dn_callV0I (pc := 9) [.int p1, .int p2, .int p3, .long p4, .int p6] r0 kRX13_329 (mX13_aboveDeed w x b r0 p1 p2 p3 p4 p6) rfl rfl (Nat.le_of_ble_eq_true rfl) ⟨(Nat.le_of_ble_eq_true rfl), (Nat.le_of_ble_eq_true rfl)⟩ ⟨rfl, rfl, (Nat.le_of_ble_eq_true rfl), (Nat.le_of_ble_eq_true rfl)⟩ dX13_above_9 (fun v1 => ?_)
  refine dn_callV0I (pc := 12) [.int v1] r0 kRX13_137 (mX13_said w x b r0 v1) rfl rfl (Nat.le_of_ble_eq_true rfl) ⟨(Nat.le_of_ble_eq_true rfl), (Nat.le_of_ble_eq_true rfl)⟩ ⟨rfl, rfl, (Nat.le_of_ble_eq_true rfl), (Nat.le_of_ble_eq_true rfl)⟩ dX13_above_12 (fun v2 => ?_)
  exact dn_ret (Nat.le_of_ble_eq_true rfl) (Nat.le_of_ble_eq_true rfl) rfl dX13_above_15
abbrev rmX13_adds : Room := { frames := 1, cells := 0, slots := 0, locals := 23 }
def fX13_adds (r0 : Option Nat) (p1 : Int32) (p2 : Int64) (p4 : UInt64) : dnM Unit :=
  if ¬ p1 = 6 then
  (if ¬ p1 = 7 then
  (if ¬ p1 = 0 then
  (dnB (dnGL r0 11 13) fun v1 =>
  dnB (dnCv r0 11 (fX13_makes r0 p1 (p2 + v1))) fun _ =>
  dnP ())
  else
  (dnB (dnGL r0 11 13) fun v3 =>
  dnB (dnPL r0 11 13 (p2 ^^^ v3)) fun _ =>
  dnP ()))
  else
  (dnB (dnGD r0 11 14) fun v4 =>
  dnB (dnN64 (FP.dadd p4 v4)) fun v5 =>
  dnB (dnPD r0 11 14 v5) fun _ =>
  dnP ()))
  else
  (dnB (dnN32 (FP.d2f p4)) fun v6 =>
  dnB (dnGD r0 11 14) fun v7 =>
  dnB (dnN32 (FP.d2f v7)) fun v8 =>
  dnB (dnN32 (FP.fadd v6 v8)) fun v9 =>
  dnB (dnN64 (FP.f2d v9)) fun v10 =>
  dnB (dnPD r0 11 14 v10) fun _ =>
  dnP ())
abbrev jX13_adds (w : dnWd) (x : dnX) (b : Nat) := dnD w x b (fun _ => True) cX13_adds RX13 6 rmX13_adds "adds" eU
set_option maxHeartbeats 4000000 in
set_option maxRecDepth 100000 in
theorem mX13_adds (w : dnWd) (x : dnX) (b : Nat) (r0 : Option Nat) (p1 : Int32) (p2 : Int64) (p4 : UInt64) : dnMt w x b yX13_adds cX13_adds 6 none rmX13_adds eU [dnV b r0, .int p1, .long p2, .double p4] (fX13_adds r0 p1 p2 p4) := by
  have hlv : lv_args 0 [dnV b r0, .int p1, .long p2, .double p4] = [(0, dnV b r0), (1, .int p1), (2, .long p2), (4, .double p4)] := by cases r0 <;> rfl
  refine dn_mt (by decide +kernel) roU (by cases r0 <;> exact (Nat.le_of_ble_eq_true rfl)) ?_
  rw [hlv]
  refine dn_top ?_
  show jX13_adds w x b 0 0 0 _ [] (dnB _ dnP)
  unfold fX13_adds
  refine dn_iload_n (pc := 0) 1 dX13_adds_0 rfl ?_
  refine dn_bipush (pc := 1) (v := 6) dX13_adds_1 rfl ?_
  refine dn_icmp_ne (pc := 3) 23 dX13_adds_3 rfl (fun _ => ?_) (fun _ => ?_)
  · refine dn_iload_n (pc := 23) 1 dX13_adds_23 rfl ?_
    refine dn_bipush (pc := 24) (v := 7) dX13_adds_24 rfl ?_
    refine dn_icmp_ne (pc := 26) 43 dX13_adds_26 rfl (fun _ => ?_) (fun _ => ?_)
    · refine dn_iload_n (pc := 43) 1 dX13_adds_43 rfl ?_
      refine dn_if_ne (pc := 44) 60 dX13_adds_44 rfl (fun _ => ?_) (fun _ => ?_)
      · refine dn_aload_n (pc := 60) r0 0 dX13_adds_60 rfl ?_
        refine dn_iload_n (pc := 61) 1 dX13_adds_61 rfl ?_
        refine dn_lload_n (pc := 62) 2 dX13_adds_62 rfl ?_
        refine dn_aload_n (pc := 63) r0 0 dX13_adds_63 rfl ?_
        refine dn_getL (pc := 64) r0 lRX13_197 dX13_adds_64 (fun v1 => ?_)
        refine dn_ladd (pc := 67) dX13_adds_67 ?_
        refine dn_callV0U (pc := 68) [.int p1, .long (p2 + v1)] r0 kRX13_250 (mX13_makes w x b r0 p1 (p2 + v1)) rfl rfl (Nat.le_of_ble_eq_true rfl) ⟨(Nat.le_of_ble_eq_true rfl), (Nat.le_of_ble_eq_true rfl)⟩ ⟨rfl, rfl, (Nat.le_of_ble_eq_true rfl), (Nat.le_of_ble_eq_true rfl)⟩ dX13_adds_68 (fun _ => ?_)
        exact dn_ret (Nat.le_of_ble_eq_true rfl) (Nat.le_of_ble_eq_true rfl) rfl dX13_adds_71
      · refine dn_aload_n (pc := 47) r0 0 dX13_adds_47 rfl ?_
        refine dn_lload_n (pc := 48) 2 dX13_adds_48 rfl ?_
        refine dn_aload_n (pc := 49) r0 0 dX13_adds_49 rfl ?_
        refine dn_getL (pc := 50) r0 lRX13_197 dX13_adds_50 (fun v3 => ?_)
        refine dn_lxor (pc := 53) dX13_adds_53 ?_
        refine dn_putL (pc := 54) r0 lRX13_197 dX13_adds_54 ?_
        refine dn_goto (pc := 57) 71 dX13_adds_57 rfl ?_
        exact dn_ret (Nat.le_of_ble_eq_true rfl) (Nat.le_of_ble_eq_true rfl) rfl dX13_adds_71
    · refine dn_aload_n (pc := 29) r0 0 dX13_adds_29 rfl ?_
      refine dn_dload (pc := 30) 3 dX13_adds_30 rfl ?_
      refine dn_aload_n (pc := 32) r0 0 dX13_adds_32 rfl ?_
      refine dn_getD (pc := 33) r0 lRX13_193 dX13_adds_33 (fun v4 => ?_)
      refine dn_dadd (pc := 36) dX13_adds_36 (fun v5 => ?_)
      refine dn_putD (pc := 37) r0 lRX13_193 dX13_adds_37 ?_
      refine dn_goto (pc := 40) 71 dX13_adds_40 rfl ?_
      exact dn_ret (Nat.le_of_ble_eq_true rfl) (Nat.le_of_ble_eq_true rfl) rfl dX13_adds_71
  · refine dn_aload_n (pc := 6) r0 0 dX13_adds_6 rfl ?_
    refine dn_dload (pc := 7) 3 dX13_adds_7 rfl ?_
    refine dn_d2f (pc := 9) dX13_adds_9 (fun v6 => ?_)
    refine dn_aload_n (pc := 10) r0 0 dX13_adds_10 rfl ?_
    refine dn_getD (pc := 11) r0 lRX13_193 dX13_adds_11 (fun v7 => ?_)
    refine dn_d2f (pc := 14) dX13_adds_14 (fun v8 => ?_)
    refine dn_fadd (pc := 15) dX13_adds_15 (fun v9 => ?_)
    refine dn_f2d (pc := 16) dX13_adds_16 (fun v10 => ?_)
    refine dn_putD (pc := 17) r0 lRX13_193 dX13_adds_17 ?_
    refine dn_goto (pc := 20) 71 dX13_adds_20 rfl ?_
    exact dn_ret (Nat.le_of_ble_eq_true rfl) (Nat.le_of_ble_eq_true rfl) rfl dX13_adds_71
abbrev rmX13_lays : Room := { frames := 0, cells := 0, slots := 0, locals := 0 }
def fX13_lays (r0 : Option Nat) (p1 : Int32) (p2 : Int32) : dnM Unit :=
  dnB (dnGR r0 11 9) fun v1 =>
  dnB (dnGI r0 11 12) fun v2 =>
  dnB (dnTI v1 100 ((12 * p1) + p2) v2) fun _ =>
  dnB (dnGR r0 11 10) fun v3 =>
  dnB (dnGL r0 11 13) fun v4 =>
  dnB (dnTL v3 102 ((12 * p1) + p2) v4) fun _ =>
  dnB (dnGR r0 11 11) fun v5 =>
  dnB (dnGD r0 11 14) fun v6 =>
  dnB (dnTD v5 103 ((12 * p1) + p2) v6) fun _ =>
  dnP ()
abbrev jX13_lays (w : dnWd) (x : dnX) (b : Nat) := dnD w x b (fun _ => True) cX13_lays RX13 3 rmX13_lays "lays" eU
set_option maxHeartbeats 4000000 in
set_option maxRecDepth 100000 in
theorem mX13_lays (w : dnWd) (x : dnX) (b : Nat) (r0 : Option Nat) (p1 : Int32) (p2 : Int32) : dnMt w x b yX13_lays cX13_lays 3 none rmX13_lays eU [dnV b r0, .int p1, .int p2] (fX13_lays r0 p1 p2) := by
  have hlv : lv_args 0 [dnV b r0, .int p1, .int p2] = [(0, dnV b r0), (1, .int p1), (2, .int p2)] := by cases r0 <;> rfl
  refine dn_mt (by decide +kernel) roU (by cases r0 <;> exact (Nat.le_of_ble_eq_true rfl)) ?_
  rw [hlv]
  refine dn_top ?_
  show jX13_lays w x b 0 0 0 _ [] (dnB _ dnP)
  unfold fX13_lays
  refine dn_aload_n (pc := 0) r0 0 dX13_lays_0 rfl ?_
  refine dn_getR (pc := 1) r0 lRX13_32 dX13_lays_1 (fun v1 => ?_)
  refine dn_bipush (pc := 4) (v := 12) dX13_lays_4 rfl ?_
  refine dn_iload_n (pc := 6) 1 dX13_lays_6 rfl ?_
  refine dn_imul (pc := 7) dX13_lays_7 ?_
  refine dn_iload_n (pc := 8) 2 dX13_lays_8 rfl ?_
  refine dn_iadd (pc := 9) dX13_lays_9 ?_
  refine dn_aload_n (pc := 10) r0 0 dX13_lays_10 rfl ?_
  refine dn_getI (pc := 11) r0 lRX13_190 dX13_lays_11 (fun v2 => ?_)
  refine dn_iast (pc := 14) v1 dX13_lays_14 ?_
  refine dn_aload_n (pc := 15) r0 0 dX13_lays_15 rfl ?_
  refine dn_getR (pc := 16) r0 lRX13_35 dX13_lays_16 (fun v3 => ?_)
  refine dn_bipush (pc := 19) (v := 12) dX13_lays_19 rfl ?_
  refine dn_iload_n (pc := 21) 1 dX13_lays_21 rfl ?_
  refine dn_imul (pc := 22) dX13_lays_22 ?_
  refine dn_iload_n (pc := 23) 2 dX13_lays_23 rfl ?_
  refine dn_iadd (pc := 24) dX13_lays_24 ?_
  refine dn_aload_n (pc := 25) r0 0 dX13_lays_25 rfl ?_
  refine dn_getL (pc := 26) r0 lRX13_197 dX13_lays_26 (fun v4 => ?_)
  refine dn_last (pc := 29) v3 dX13_lays_29 ?_
  refine dn_aload_n (pc := 30) r0 0 dX13_lays_30 rfl ?_
  refine dn_getR (pc := 31) r0 lRX13_39 dX13_lays_31 (fun v5 => ?_)
  refine dn_bipush (pc := 34) (v := 12) dX13_lays_34 rfl ?_
  refine dn_iload_n (pc := 36) 1 dX13_lays_36 rfl ?_
  refine dn_imul (pc := 37) dX13_lays_37 ?_
  refine dn_iload_n (pc := 38) 2 dX13_lays_38 rfl ?_
  refine dn_iadd (pc := 39) dX13_lays_39 ?_
  refine dn_aload_n (pc := 40) r0 0 dX13_lays_40 rfl ?_
  refine dn_getD (pc := 41) r0 lRX13_193 dX13_lays_41 (fun v6 => ?_)
  refine dn_dast (pc := 44) v5 dX13_lays_44 ?_
  exact dn_ret (Nat.le_of_ble_eq_true rfl) (Nat.le_of_ble_eq_true rfl) rfl dX13_lays_45
abbrev rmX13_addDeed : Room := { frames := 3, cells := 0, slots := 0, locals := 68 }
def fX13_addDeed_b67 (c0 : Option Nat) (c3 : Int32) (c4 : Int32) (c6 : Int32) (s67 : Int32) : dnM ((Int32) ⊕ (Unit)) :=
  dnB (dnGR c0 11 7) fun v1 =>
  dnB (dnAI v1 100 c6) fun v2 =>
  if v2 ≤ s67 then
  (dnP (.inr ()))
  else
  (dnB (dnCv c0 11 (fX13_makes c0 c3 ((c4 : Int32).toInt64))) fun _ =>
  dnB (dnGR c0 11 10) fun v4 =>
  dnB (dnAL v4 102 ((12 * c6) + s67)) fun v5 =>
  dnB (dnGR c0 11 11) fun v6 =>
  dnB (dnAD v6 103 ((12 * c6) + s67)) fun v7 =>
  dnB (dnCv c0 11 (fX13_adds c0 c3 v5 v7)) fun _ =>
  dnB (dnCv c0 11 (fX13_lays c0 c6 s67)) fun _ =>
  dnP (.inl (s67 + 1)))
def fX13_addDeed_j64 (l0 : Option Nat) (l3 : Int32) (l4 : Int32) (l6 : Int32) : dnM Int32 :=
  dnB (dnIt 1000 (fX13_addDeed_b67 l0 l3 l4 l6) 0) fun q67 =>
  dnB (dnGR l0 11 7) fun v10 =>
  dnB (dnAI v10 100 l6) fun v11 =>
  dnP v11
def fX13_addDeed (r0 : Option Nat) (p1 : Int32) (p2 : Int32) (p3 : Int32) (p4 : Int32) : dnM Int32 :=
  dnB (fX13_isGrid p1) fun v12 =>
  if v12 = true then
  (dnB (fX13_isPlain p3) fun v13 =>
  if v13 = true then
  (dnB (dnCv r0 11 (fX13_rowFault r0 p1 p2)) fun v14 =>
  if v14 = 0 then
  (dnB (dnCv r0 11 (fX13_held r0 p1 p2)) fun v15 =>
  dnB (dnGR r0 11 7) fun v16 =>
  dnB (dnAI v16 100 v15) fun v17 =>
  if v17 ≤ 0 then
  (fX13_addDeed_j64 r0 p3 p4 v15)
  else
  (dnB (dnGR r0 11 6) fun v18 =>
  dnB (dnAI v18 100 v15) fun v19 =>
  if v19 = p3 then
  (fX13_addDeed_j64 r0 p3 p4 v15)
  else
  (dnP (-7))))
  else
  (dnP v14))
  else
  (dnP (-1)))
  else
  (dnP (-1))
abbrev jX13_addDeed (w : dnWd) (x : dnX) (b : Nat) := dnD w x b (fun _ => True) cX13_addDeed RX13 8 rmX13_addDeed "addDeed" eI
set_option maxHeartbeats 4000000 in
set_option maxRecDepth 100000 in
theorem mX13_addDeed (w : dnWd) (x : dnX) (b : Nat) (r0 : Option Nat) (p1 : Int32) (p2 : Int32) (p3 : Int32) (p4 : Int32) : dnMt w x b yX13_addDeed cX13_addDeed 8 (some .int) rmX13_addDeed eI [dnV b r0, .int p1, .int p2, .int p3, .int p4] (fX13_addDeed r0 p1 p2 p3 p4) := by
  have hlv : lv_args 0 [dnV b r0, .int p1, .int p2, .int p3, .int p4] = [(0, dnV b r0), (1, .int p1), (2, .int p2), (3, .int p3), (4, .int p4)] := by cases r0 <;> rfl
  refine dn_mt (by decide +kernel) roI (by cases r0 <;> exact (Nat.le_of_ble_eq_true rfl)) ?_
  rw [hlv]
  refine dn_top ?_
  show jX13_addDeed w x b 0 0 0 _ [] (dnB _ dnP)
  unfold fX13_addDeed
  have hj64 : ∀ (l0 : Option Nat) (l3 : Int32) (l4 : Int32) (l6 : Int32), jX13_addDeed w x b 64 0 0 [(0, dnV b l0), (3, .int l3), (4, .int l4), (6, .int l6)] [] (dnB (fX13_addDeed_j64 l0 l3 l4 l6) dnP) := by
    intro l0 l3 l4 l6
    unfold fX13_addDeed_j64
    refine dn_iconst (pc := 64) (v := 0) dX13_addDeed_64 rfl ?_
    refine dn_istore (pc := 65) dX13_addDeed_65 (Nat.le_of_ble_eq_true rfl) (dnKp_nb 3 rfl rfl rfl (dnKp_of (lv2 := [(0, dnV b l0), (3, .int l3), (4, .int l4)]) [0, 1, 2] rfl rfl)) ?_
    refine dn_assoc ?_
    refine dn_lv [2, 3, 4, 1, 0] (lv2 := (fun s => [(0, dnV b l0), (3, .int l3), (4, .int l4), (6, .int l6), (7, .int s)]) 0) rfl ?_
    refine dn_loopE (pc := 67) (body := fX13_addDeed_b67 l0 l3 l4 l6) 132 (fun s => [(0, dnV b l0), (3, .int l3), (4, .int l4), (6, .int l6), (7, .int s)]) (fun q => [(0, dnV b l0), (6, .int l6)]) (fun s67 K67 E67 hK67 hE67 => ?_) (fun q67 => ?_) 1000 0
    · unfold fX13_addDeed_b67
      refine dn_iload (pc := 67) 4 dX13_addDeed_67 rfl ?_
      refine dn_aload_n (pc := 69) l0 0 dX13_addDeed_69 rfl ?_
      refine dn_getR (pc := 70) l0 lRX13_26 dX13_addDeed_70 (fun v1 => ?_)
      refine dn_iload (pc := 73) 3 dX13_addDeed_73 rfl ?_
      refine dn_iald (pc := 75) v1 dX13_addDeed_75 (fun v2 => ?_)
      refine dn_icmp_ge (pc := 76) 132 dX13_addDeed_76 rfl (fun _ => ?_) (fun _ => ?_)
      · refine dn_leaf ?_
        exact dn_lv [0, 3] rfl (hE67 ())
      · refine dn_aload_n (pc := 79) l0 0 dX13_addDeed_79 rfl ?_
        refine dn_iload_n (pc := 80) 1 dX13_addDeed_80 rfl ?_
        refine dn_iload (pc := 81) 2 dX13_addDeed_81 rfl ?_
        refine dn_i2l (pc := 83) dX13_addDeed_83 ?_
        refine dn_callV0U (pc := 84) [.int l3, .long ((l4 : Int32).toInt64)] l0 kRX13_250 (mX13_makes w x b l0 l3 ((l4 : Int32).toInt64)) rfl rfl (Nat.le_of_ble_eq_true rfl) ⟨(Nat.le_of_ble_eq_true rfl), (Nat.le_of_ble_eq_true rfl)⟩ ⟨rfl, rfl, (Nat.le_of_ble_eq_true rfl), (Nat.le_of_ble_eq_true rfl)⟩ dX13_addDeed_84 (fun _ => ?_)
        refine dn_aload_n (pc := 87) l0 0 dX13_addDeed_87 rfl ?_
        refine dn_iload_n (pc := 88) 1 dX13_addDeed_88 rfl ?_
        refine dn_aload_n (pc := 89) l0 0 dX13_addDeed_89 rfl ?_
        refine dn_getR (pc := 90) l0 lRX13_35 dX13_addDeed_90 (fun v4 => ?_)
        refine dn_bipush (pc := 93) (v := 12) dX13_addDeed_93 rfl ?_
        refine dn_iload (pc := 95) 3 dX13_addDeed_95 rfl ?_
        refine dn_imul (pc := 97) dX13_addDeed_97 ?_
        refine dn_iload (pc := 98) 4 dX13_addDeed_98 rfl ?_
        refine dn_iadd (pc := 100) dX13_addDeed_100 ?_
        refine dn_lald (pc := 101) v4 dX13_addDeed_101 (fun v5 => ?_)
        refine dn_aload_n (pc := 102) l0 0 dX13_addDeed_102 rfl ?_
        refine dn_getR (pc := 103) l0 lRX13_39 dX13_addDeed_103 (fun v6 => ?_)
        refine dn_bipush (pc := 106) (v := 12) dX13_addDeed_106 rfl ?_
        refine dn_iload (pc := 108) 3 dX13_addDeed_108 rfl ?_
        refine dn_imul (pc := 110) dX13_addDeed_110 ?_
        refine dn_iload (pc := 111) 4 dX13_addDeed_111 rfl ?_
        refine dn_iadd (pc := 113) dX13_addDeed_113 ?_
        refine dn_dald (pc := 114) v6 dX13_addDeed_114 (fun v7 => ?_)
        refine dn_callV0U (pc := 115) [.int l3, .long v5, .double v7] l0 kRX13_318 (mX13_adds w x b l0 l3 v5 v7) rfl rfl (Nat.le_of_ble_eq_true rfl) ⟨(Nat.le_of_ble_eq_true rfl), (Nat.le_of_ble_eq_true rfl)⟩ ⟨rfl, rfl, (Nat.le_of_ble_eq_true rfl), (Nat.le_of_ble_eq_true rfl)⟩ dX13_addDeed_115 (fun _ => ?_)
        refine dn_aload_n (pc := 118) l0 0 dX13_addDeed_118 rfl ?_
        refine dn_iload (pc := 119) 3 dX13_addDeed_119 rfl ?_
        refine dn_iload (pc := 121) 4 dX13_addDeed_121 rfl ?_
        refine dn_callV0U (pc := 123) [.int l6, .int s67] l0 kRX13_216 (mX13_lays w x b l0 l6 s67) rfl rfl (Nat.le_of_ble_eq_true rfl) ⟨(Nat.le_of_ble_eq_true rfl), (Nat.le_of_ble_eq_true rfl)⟩ ⟨rfl, rfl, (Nat.le_of_ble_eq_true rfl), (Nat.le_of_ble_eq_true rfl)⟩ dX13_addDeed_123 (fun _ => ?_)
        refine dn_iinc (pc := 126) (s67 + 1) 4 dX13_addDeed_126 rfl rfl (Nat.le_of_ble_eq_true rfl) (dnKp_nb 3 rfl rfl rfl (dnKp_of (lv2 := [(0, dnV b l0), (3, .int l3), (4, .int l4)]) [0, 1, 2] rfl rfl)) ?_
        refine dn_goto (pc := 129) 67 dX13_addDeed_129 rfl ?_
        refine dn_leaf ?_
        exact dn_lv [2, 3, 4, 1, 0] rfl (hK67 (s67 + 1))
    · refine dn_aload_n (pc := 132) l0 0 dX13_addDeed_132 rfl ?_
      refine dn_getR (pc := 133) l0 lRX13_26 dX13_addDeed_133 (fun v10 => ?_)
      refine dn_iload (pc := 136) 1 dX13_addDeed_136 rfl ?_
      refine dn_iald (pc := 138) v10 dX13_addDeed_138 (fun v11 => ?_)
      exact dn_ret (Nat.le_of_ble_eq_true rfl) (Nat.le_of_ble_eq_true rfl) rfl dX13_addDeed_139
  refine dn_iload_n (pc := 0) 1 dX13_addDeed_0 rfl ?_
  refine dn_callS0Z (pc := 1) [.int p1]  kRX13_134 (mX13_isGrid w x b p1) rfl rfl (Nat.le_of_ble_eq_true rfl) ⟨(Nat.le_of_ble_eq_true rfl), (Nat.le_of_ble_eq_true rfl)⟩ ⟨rfl, rfl, (Nat.le_of_ble_eq_true rfl), (Nat.le_of_ble_eq_true rfl)⟩ dX13_addDeed_1 (fun v12 => ?_)
  refine dn_ifz_eq (pc := 4) 14 dX13_addDeed_4 rfl (fun _ => ?_) (fun _ => ?_)
  · refine dn_iload_n (pc := 7) 3 dX13_addDeed_7 rfl ?_
    refine dn_callS0Z (pc := 8) [.int p3]  kRX13_209 (mX13_isPlain w x b p3) rfl rfl (Nat.le_of_ble_eq_true rfl) ⟨(Nat.le_of_ble_eq_true rfl), (Nat.le_of_ble_eq_true rfl)⟩ ⟨rfl, rfl, (Nat.le_of_ble_eq_true rfl), (Nat.le_of_ble_eq_true rfl)⟩ dX13_addDeed_8 (fun v13 => ?_)
    refine dn_ifz_ne (pc := 11) 16 dX13_addDeed_11 rfl (fun _ => ?_) (fun _ => ?_)
    · refine dn_aload_n (pc := 16) r0 0 dX13_addDeed_16 rfl ?_
      refine dn_iload_n (pc := 17) 1 dX13_addDeed_17 rfl ?_
      refine dn_iload_n (pc := 18) 2 dX13_addDeed_18 rfl ?_
      refine dn_callV0I (pc := 19) [.int p1, .int p2] r0 kRX13_131 (mX13_rowFault w x b r0 p1 p2) rfl rfl (Nat.le_of_ble_eq_true rfl) ⟨(Nat.le_of_ble_eq_true rfl), (Nat.le_of_ble_eq_true rfl)⟩ ⟨rfl, rfl, (Nat.le_of_ble_eq_true rfl), (Nat.le_of_ble_eq_true rfl)⟩ dX13_addDeed_19 (fun v14 => ?_)
      refine dn_istore (pc := 22) dX13_addDeed_22 (Nat.le_of_ble_eq_true rfl) (dnKp_nb 4 rfl rfl rfl (dnKp_of (lv2 := [(0, dnV b r0), (1, .int p1), (2, .int p2), (3, .int p3)]) [0, 1, 2, 3] rfl rfl)) ?_
      refine dn_iload (pc := 24) 0 dX13_addDeed_24 rfl ?_
      refine dn_if_eq (pc := 26) 32 dX13_addDeed_26 rfl (fun _ => ?_) (fun _ => ?_)
      · refine dn_aload_n (pc := 32) r0 2 dX13_addDeed_32 rfl ?_
        refine dn_iload_n (pc := 33) 3 dX13_addDeed_33 rfl ?_
        refine dn_iload_n (pc := 34) 4 dX13_addDeed_34 rfl ?_
        refine dn_callV0I (pc := 35) [.int p1, .int p2] r0 kRX13_128 (mX13_held w x b r0 p1 p2) rfl rfl (Nat.le_of_ble_eq_true rfl) ⟨(Nat.le_of_ble_eq_true rfl), (Nat.le_of_ble_eq_true rfl)⟩ ⟨rfl, rfl, (Nat.le_of_ble_eq_true rfl), (Nat.le_of_ble_eq_true rfl)⟩ dX13_addDeed_35 (fun v15 => ?_)
        refine dn_istore (pc := 38) dX13_addDeed_38 (Nat.le_of_ble_eq_true rfl) (dnKp_of (lv2 := [(4, .int p4), (0, dnV b r0), (3, .int p3)]) [1, 2, 5] rfl rfl) ?_
        refine dn_aload_n (pc := 40) r0 2 dX13_addDeed_40 rfl ?_
        refine dn_getR (pc := 41) r0 lRX13_26 dX13_addDeed_41 (fun v16 => ?_)
        refine dn_iload (pc := 44) 0 dX13_addDeed_44 rfl ?_
        refine dn_iald (pc := 46) v16 dX13_addDeed_46 (fun v17 => ?_)
        refine dn_if_le (pc := 47) 64 dX13_addDeed_47 rfl (fun _ => ?_) (fun _ => ?_)
        · exact dn_lv [2, 3, 1, 0] rfl (hj64 r0 p3 p4 v15)
        · refine dn_aload_n (pc := 50) r0 2 dX13_addDeed_50 rfl ?_
          refine dn_getR (pc := 51) r0 lRX13_23 dX13_addDeed_51 (fun v18 => ?_)
          refine dn_iload (pc := 54) 0 dX13_addDeed_54 rfl ?_
          refine dn_iald (pc := 56) v18 dX13_addDeed_56 (fun v19 => ?_)
          refine dn_iload_n (pc := 57) 3 dX13_addDeed_57 rfl ?_
          refine dn_icmp_eq (pc := 58) 64 dX13_addDeed_58 rfl (fun _ => ?_) (fun _ => ?_)
          · exact dn_lv [2, 3, 1, 0] rfl (hj64 r0 p3 p4 v15)
          · refine dn_bipush (pc := 61) (v := -7) dX13_addDeed_61 rfl ?_
            exact dn_ret (Nat.le_of_ble_eq_true rfl) (Nat.le_of_ble_eq_true rfl) rfl dX13_addDeed_63
      · refine dn_iload (pc := 29) 0 dX13_addDeed_29 rfl ?_
        exact dn_ret (Nat.le_of_ble_eq_true rfl) (Nat.le_of_ble_eq_true rfl) rfl dX13_addDeed_31
    · refine dn_iconst (pc := 14) (v := -1) dX13_addDeed_14 rfl ?_
      exact dn_ret (Nat.le_of_ble_eq_true rfl) (Nat.le_of_ble_eq_true rfl) rfl dX13_addDeed_15
  · refine dn_iconst (pc := 14) (v := -1) dX13_addDeed_14 rfl ?_
    exact dn_ret (Nat.le_of_ble_eq_true rfl) (Nat.le_of_ble_eq_true rfl) rfl dX13_addDeed_15
abbrev rmX13_add : Room := { frames := 4, cells := 0, slots := 0, locals := 95 }
def fX13_add (r0 : Option Nat) (p1 : Int32) (p2 : Int32) (p3 : Int32) (p4 : Int32) : dnM Int32 :=
  dnB (dnCv r0 11 (fX13_addDeed r0 p1 p2 p3 p4)) fun v1 =>
  dnB (dnCv r0 11 (fX13_said r0 v1)) fun v2 =>
  dnP v2
abbrev jX13_add (w : dnWd) (x : dnX) (b : Nat) := dnD w x b (fun _ => True) cX13_add RX13 5 rmX13_add "add" eI
set_option maxHeartbeats 4000000 in
set_option maxRecDepth 100000 in
theorem mX13_add (w : dnWd) (x : dnX) (b : Nat) (r0 : Option Nat) (p1 : Int32) (p2 : Int32) (p3 : Int32) (p4 : Int32) : dnMt w x b yX13_add cX13_add 5 (some .int) rmX13_add eI [dnV b r0, .int p1, .int p2, .int p3, .int p4] (fX13_add r0 p1 p2 p3 p4) := by
  have hlv : lv_args 0 [dnV b r0, .int p1, .int p2, .int p3, .int p4] = [(0, dnV b r0), (1, .int p1), (2, .int p2), (3, .int p3), (4, .int p4)] := by cases r0 <;> rfl
  refine dn_mt (by decide +kernel) roI (by cases r0 <;> exact (Nat.le_of_ble_eq_true rfl)) ?_
  rw [hlv]
  refine dn_top ?_
  show jX13_add w x b 0 0 0 _ [] (dnB _ dnP)
  unfold fX13_add
  refine dn_aload_n (pc := 0) r0 0 dX13_add_0 rfl ?_
  refine dn_aload_n (pc := 1) r0 0 dX13_add_1 rfl ?_
  refine dn_iload_n (pc := 2) 1 dX13_add_2 rfl ?_
  refine dn_iload_n (pc := 3) 2 dX13_add_3 rfl ?_
  refine dn_iload_n (pc := 4) 3 dX13_add_4 rfl ?_
  refine dn_iload (pc := 5) 4 dX13_add_5 rfl ?_
  refine dn_callV0I (pc := 7) [.int p1, .int p2, .int p3, .int p4] r0 kRX13_322 (mX13_addDeed w x b r0 p1 p2 p3 p4) rfl rfl (Nat.le_of_ble_eq_true rfl) ⟨(Nat.le_of_ble_eq_true rfl), (Nat.le_of_ble_eq_true rfl)⟩ ⟨rfl, rfl, (Nat.le_of_ble_eq_true rfl), (Nat.le_of_ble_eq_true rfl)⟩ dX13_add_7 (fun v1 => ?_)
  refine dn_callV0I (pc := 10) [.int v1] r0 kRX13_137 (mX13_said w x b r0 v1) rfl rfl (Nat.le_of_ble_eq_true rfl) ⟨(Nat.le_of_ble_eq_true rfl), (Nat.le_of_ble_eq_true rfl)⟩ ⟨rfl, rfl, (Nat.le_of_ble_eq_true rfl), (Nat.le_of_ble_eq_true rfl)⟩ dX13_add_10 (fun v2 => ?_)
  exact dn_ret (Nat.le_of_ble_eq_true rfl) (Nat.le_of_ble_eq_true rfl) rfl dX13_add_13
abbrev rmX13_both : Room := { frames := 0, cells := 0, slots := 0, locals := 0 }
def fX13_both (r0 : Option Nat) (p1 : Int32) (p2 : Int32) : dnM Int32 :=
  dnB (dnGR r0 11 7) fun v1 =>
  dnB (dnAI v1 100 p1) fun v2 =>
  dnB (dnGR r0 11 7) fun v3 =>
  dnB (dnAI v3 100 p2) fun v4 =>
  if v4 ≤ v2 then
  (dnB (dnGR r0 11 7) fun v5 =>
  dnB (dnAI v5 100 p2) fun v6 =>
  dnP v6)
  else
  (dnB (dnGR r0 11 7) fun v7 =>
  dnB (dnAI v7 100 p1) fun v8 =>
  dnP v8)
abbrev jX13_both (w : dnWd) (x : dnX) (b : Nat) := dnD w x b (fun _ => True) cX13_both RX13 3 rmX13_both "both" eI
set_option maxHeartbeats 4000000 in
set_option maxRecDepth 100000 in
theorem mX13_both (w : dnWd) (x : dnX) (b : Nat) (r0 : Option Nat) (p1 : Int32) (p2 : Int32) : dnMt w x b yX13_both cX13_both 3 (some .int) rmX13_both eI [dnV b r0, .int p1, .int p2] (fX13_both r0 p1 p2) := by
  have hlv : lv_args 0 [dnV b r0, .int p1, .int p2] = [(0, dnV b r0), (1, .int p1), (2, .int p2)] := by cases r0 <;> rfl
  refine dn_mt (by decide +kernel) roI (by cases r0 <;> exact (Nat.le_of_ble_eq_true rfl)) ?_
  rw [hlv]
  refine dn_top ?_
  show jX13_both w x b 0 0 0 _ [] (dnB _ dnP)
  unfold fX13_both
  refine dn_aload_n (pc := 0) r0 0 dX13_both_0 rfl ?_
  refine dn_getR (pc := 1) r0 lRX13_26 dX13_both_1 (fun v1 => ?_)
  refine dn_iload_n (pc := 4) 1 dX13_both_4 rfl ?_
  refine dn_iald (pc := 5) v1 dX13_both_5 (fun v2 => ?_)
  refine dn_aload_n (pc := 6) r0 0 dX13_both_6 rfl ?_
  refine dn_getR (pc := 7) r0 lRX13_26 dX13_both_7 (fun v3 => ?_)
  refine dn_iload_n (pc := 10) 2 dX13_both_10 rfl ?_
  refine dn_iald (pc := 11) v3 dX13_both_11 (fun v4 => ?_)
  refine dn_icmp_ge (pc := 12) 24 dX13_both_12 rfl (fun _ => ?_) (fun _ => ?_)
  · refine dn_aload_n (pc := 24) r0 0 dX13_both_24 rfl ?_
    refine dn_getR (pc := 25) r0 lRX13_26 dX13_both_25 (fun v5 => ?_)
    refine dn_iload_n (pc := 28) 2 dX13_both_28 rfl ?_
    refine dn_iald (pc := 29) v5 dX13_both_29 (fun v6 => ?_)
    exact dn_ret (Nat.le_of_ble_eq_true rfl) (Nat.le_of_ble_eq_true rfl) rfl dX13_both_30
  · refine dn_aload_n (pc := 15) r0 0 dX13_both_15 rfl ?_
    refine dn_getR (pc := 16) r0 lRX13_26 dX13_both_16 (fun v7 => ?_)
    refine dn_iload_n (pc := 19) 1 dX13_both_19 rfl ?_
    refine dn_iald (pc := 20) v7 dX13_both_20 (fun v8 => ?_)
    refine dn_goto (pc := 21) 30 dX13_both_21 rfl ?_
    exact dn_ret (Nat.le_of_ble_eq_true rfl) (Nat.le_of_ble_eq_true rfl) rfl dX13_both_30
abbrev rmX13_asDouble : Room := { frames := 0, cells := 0, slots := 0, locals := 0 }
def fX13_asDouble (p0 : Int32) (p1 : Int64) (p3 : UInt64) : dnM UInt64 :=
  if 6 ≤ p0 then
  (dnP p3)
  else
  (dnP (FP.l2d p1))
abbrev jX13_asDouble (w : dnWd) (x : dnX) (b : Nat) := dnD w x b (fun _ => True) cX13_asDouble RX13 5 rmX13_asDouble "asDouble" eD
set_option maxHeartbeats 4000000 in
set_option maxRecDepth 100000 in
theorem mX13_asDouble (w : dnWd) (x : dnX) (b : Nat) (p0 : Int32) (p1 : Int64) (p3 : UInt64) : dnMt w x b yX13_asDouble cX13_asDouble 5 (some .double) rmX13_asDouble eD [.int p0, .long p1, .double p3] (fX13_asDouble p0 p1 p3) := by
  have hlv : lv_args 0 [.int p0, .long p1, .double p3] = [(0, .int p0), (1, .long p1), (3, .double p3)] := by rfl
  refine dn_mt (by decide +kernel) roD (by exact (Nat.le_of_ble_eq_true rfl)) ?_
  rw [hlv]
  refine dn_top ?_
  show jX13_asDouble w x b 0 0 0 _ [] (dnB _ dnP)
  unfold fX13_asDouble
  refine dn_iload_n (pc := 0) 0 dX13_asDouble_0 rfl ?_
  refine dn_bipush (pc := 1) (v := 6) dX13_asDouble_1 rfl ?_
  refine dn_icmp_ge (pc := 3) 11 dX13_asDouble_3 rfl (fun _ => ?_) (fun _ => ?_)
  · refine dn_dload_n (pc := 11) 2 dX13_asDouble_11 rfl ?_
    exact dn_ret (Nat.le_of_ble_eq_true rfl) (Nat.le_of_ble_eq_true rfl) rfl dX13_asDouble_12
  · refine dn_lload_n (pc := 6) 1 dX13_asDouble_6 rfl ?_
    refine dn_l2d (pc := 7) dX13_asDouble_7 ?_
    refine dn_goto (pc := 8) 12 dX13_asDouble_8 rfl ?_
    exact dn_ret (Nat.le_of_ble_eq_true rfl) (Nat.le_of_ble_eq_true rfl) rfl dX13_asDouble_12
abbrev rmX13_isNumber : Room := { frames := 1, cells := 0, slots := 0, locals := 22 }
def fX13_isNumber (p0 : Int32) : dnM Bool :=
  dnB (fX13_in p0 1 7) fun v1 =>
  dnP v1
abbrev jX13_isNumber (w : dnWd) (x : dnX) (b : Nat) := dnD w x b (fun _ => True) cX13_isNumber RX13 1 rmX13_isNumber "isNumber" eZ
set_option maxHeartbeats 4000000 in
set_option maxRecDepth 100000 in
theorem mX13_isNumber (w : dnWd) (x : dnX) (b : Nat) (p0 : Int32) : dnMt w x b yX13_isNumber cX13_isNumber 1 (some .boolean) rmX13_isNumber eZ [.int p0] (fX13_isNumber p0) := by
  have hlv : lv_args 0 [.int p0] = [(0, .int p0)] := by rfl
  refine dn_mt (by decide +kernel) roZ (by exact (Nat.le_of_ble_eq_true rfl)) ?_
  rw [hlv]
  refine dn_top ?_
  show jX13_isNumber w x b 0 0 0 _ [] (dnB _ dnP)
  unfold fX13_isNumber
  refine dn_iload_n (pc := 0) 0 dX13_isNumber_0 rfl ?_
  refine dn_iconst (pc := 1) (v := 1) dX13_isNumber_1 rfl ?_
  refine dn_bipush (pc := 2) (v := 7) dX13_isNumber_2 rfl ?_
  refine dn_callS0Z (pc := 4) [.int p0, .int 1, .int 7]  kRX13_109 (mX13_in w x b p0 1 7) rfl rfl (Nat.le_of_ble_eq_true rfl) ⟨(Nat.le_of_ble_eq_true rfl), (Nat.le_of_ble_eq_true rfl)⟩ ⟨rfl, rfl, (Nat.le_of_ble_eq_true rfl), (Nat.le_of_ble_eq_true rfl)⟩ dX13_isNumber_4 (fun v1 => ?_)
  exact dn_ret (Nat.le_of_ble_eq_true rfl) (Nat.le_of_ble_eq_true rfl) rfl dX13_isNumber_7
abbrev rmX13_areLike : Room := { frames := 2, cells := 0, slots := 0, locals := 42 }
def fX13_areLike_j68 (l0 : Int32) (l1 : Int64) (l5 : Int32) (l6 : Int64) : dnM Bool :=
  if ¬ l0 = l5 then
  (dnP false)
  else
  (if ¬ (lg_cmp l1 l6) = 0 then
  (dnP false)
  else
  (dnP true))
def fX13_areLike_j43 (l0 : Int32) (l1 : Int64) (l3 : UInt64) (l5 : Int32) (l6 : Int64) (l8 : UInt64) : dnM Bool :=
  dnB (fX13_asDouble l0 l1 l3) fun v1 =>
  dnB (fX13_asDouble l5 l6 l8) fun v2 =>
  if ¬ (Op.cmpValue (FP.dcmp v1 v2) .l) = 0 then
  (dnP false)
  else
  (dnP true)
def fX13_areLike (p0 : Int32) (p1 : Int64) (p3 : UInt64) (p5 : Int32) (p6 : Int64) (p8 : UInt64) : dnM Bool :=
  dnB (fX13_isNumber p0) fun v3 =>
  if v3 = true then
  (dnB (fX13_isNumber p5) fun v4 =>
  if v4 = true then
  (if 6 ≤ p0 then
  (fX13_areLike_j43 p0 p1 p3 p5 p6 p8)
  else
  (if 6 ≤ p5 then
  (fX13_areLike_j43 p0 p1 p3 p5 p6 p8)
  else
  (if ¬ (lg_cmp p1 p6) = 0 then
  (dnP false)
  else
  (dnP true))))
  else
  (fX13_areLike_j68 p0 p1 p5 p6))
  else
  (fX13_areLike_j68 p0 p1 p5 p6)
abbrev jX13_areLike (w : dnWd) (x : dnX) (b : Nat) := dnD w x b (fun _ => True) cX13_areLike RX13 10 rmX13_areLike "areLike" eZ
set_option maxHeartbeats 4000000 in
set_option maxRecDepth 100000 in
theorem mX13_areLike (w : dnWd) (x : dnX) (b : Nat) (p0 : Int32) (p1 : Int64) (p3 : UInt64) (p5 : Int32) (p6 : Int64) (p8 : UInt64) : dnMt w x b yX13_areLike cX13_areLike 10 (some .boolean) rmX13_areLike eZ [.int p0, .long p1, .double p3, .int p5, .long p6, .double p8] (fX13_areLike p0 p1 p3 p5 p6 p8) := by
  have hlv : lv_args 0 [.int p0, .long p1, .double p3, .int p5, .long p6, .double p8] = [(0, .int p0), (1, .long p1), (3, .double p3), (5, .int p5), (6, .long p6), (8, .double p8)] := by rfl
  refine dn_mt (by decide +kernel) roZ (by exact (Nat.le_of_ble_eq_true rfl)) ?_
  rw [hlv]
  refine dn_top ?_
  show jX13_areLike w x b 0 0 0 _ [] (dnB _ dnP)
  unfold fX13_areLike
  have hj68 : ∀ (l0 : Int32) (l1 : Int64) (l5 : Int32) (l6 : Int64), jX13_areLike w x b 68 0 0 [(0, .int l0), (1, .long l1), (5, .int l5), (6, .long l6)] [] (dnB (fX13_areLike_j68 l0 l1 l5 l6) dnP) := by
    intro l0 l1 l5 l6
    unfold fX13_areLike_j68
    refine dn_iload_n (pc := 68) 0 dX13_areLike_68 rfl ?_
    refine dn_iload (pc := 69) 2 dX13_areLike_69 rfl ?_
    refine dn_icmp_ne (pc := 71) 85 dX13_areLike_71 rfl (fun _ => ?_) (fun _ => ?_)
    · refine dn_iconst (pc := 85) (v := 0) dX13_areLike_85 rfl ?_
      exact dn_ret (Nat.le_of_ble_eq_true rfl) (Nat.le_of_ble_eq_true rfl) rfl dX13_areLike_86
    · refine dn_lload_n (pc := 74) 1 dX13_areLike_74 rfl ?_
      refine dn_lload (pc := 75) 3 dX13_areLike_75 rfl ?_
      refine dn_lcmp (pc := 77) dX13_areLike_77 ?_
      refine dn_if_ne (pc := 78) 85 dX13_areLike_78 rfl (fun _ => ?_) (fun _ => ?_)
      · refine dn_iconst (pc := 85) (v := 0) dX13_areLike_85 rfl ?_
        exact dn_ret (Nat.le_of_ble_eq_true rfl) (Nat.le_of_ble_eq_true rfl) rfl dX13_areLike_86
      · refine dn_iconst (pc := 81) (v := 1) dX13_areLike_81 rfl ?_
        refine dn_goto (pc := 82) 86 dX13_areLike_82 rfl ?_
        exact dn_ret (Nat.le_of_ble_eq_true rfl) (Nat.le_of_ble_eq_true rfl) rfl dX13_areLike_86
  have hj43 : ∀ (l0 : Int32) (l1 : Int64) (l3 : UInt64) (l5 : Int32) (l6 : Int64) (l8 : UInt64), jX13_areLike w x b 43 0 0 [(0, .int l0), (1, .long l1), (3, .double l3), (5, .int l5), (6, .long l6), (8, .double l8)] [] (dnB (fX13_areLike_j43 l0 l1 l3 l5 l6 l8) dnP) := by
    intro l0 l1 l3 l5 l6 l8
    unfold fX13_areLike_j43
    refine dn_iload_n (pc := 43) 0 dX13_areLike_43 rfl ?_
    refine dn_lload_n (pc := 44) 1 dX13_areLike_44 rfl ?_
    refine dn_dload_n (pc := 45) 2 dX13_areLike_45 rfl ?_
    refine dn_callS0D (pc := 46) [.int l0, .long l1, .double l3]  kRX13_222 (mX13_asDouble w x b l0 l1 l3) rfl rfl (Nat.le_of_ble_eq_true rfl) ⟨(Nat.le_of_ble_eq_true rfl), (Nat.le_of_ble_eq_true rfl)⟩ ⟨rfl, rfl, (Nat.le_of_ble_eq_true rfl), (Nat.le_of_ble_eq_true rfl)⟩ dX13_areLike_46 (fun v1 => ?_)
    refine dn_iload (pc := 49) 3 dX13_areLike_49 rfl ?_
    refine dn_lload (pc := 51) 4 dX13_areLike_51 rfl ?_
    refine dn_dload (pc := 53) 5 dX13_areLike_53 rfl ?_
    refine dn_callS0D (pc := 55) [.int l5, .long l6, .double l8]  kRX13_222 (mX13_asDouble w x b l5 l6 l8) rfl rfl (Nat.le_of_ble_eq_true rfl) ⟨(Nat.le_of_ble_eq_true rfl), (Nat.le_of_ble_eq_true rfl)⟩ ⟨rfl, rfl, (Nat.le_of_ble_eq_true rfl), (Nat.le_of_ble_eq_true rfl)⟩ dX13_areLike_55 (fun v2 => ?_)
    refine dn_dcmp (pc := 58) dX13_areLike_58 ?_
    refine dn_if_ne (pc := 59) 66 dX13_areLike_59 rfl (fun _ => ?_) (fun _ => ?_)
    · refine dn_iconst (pc := 66) (v := 0) dX13_areLike_66 rfl ?_
      exact dn_ret (Nat.le_of_ble_eq_true rfl) (Nat.le_of_ble_eq_true rfl) rfl dX13_areLike_67
    · refine dn_iconst (pc := 62) (v := 1) dX13_areLike_62 rfl ?_
      refine dn_goto (pc := 63) 67 dX13_areLike_63 rfl ?_
      exact dn_ret (Nat.le_of_ble_eq_true rfl) (Nat.le_of_ble_eq_true rfl) rfl dX13_areLike_67
  refine dn_iload_n (pc := 0) 0 dX13_areLike_0 rfl ?_
  refine dn_callS0Z (pc := 1) [.int p0]  kRX13_219 (mX13_isNumber w x b p0) rfl rfl (Nat.le_of_ble_eq_true rfl) ⟨(Nat.le_of_ble_eq_true rfl), (Nat.le_of_ble_eq_true rfl)⟩ ⟨rfl, rfl, (Nat.le_of_ble_eq_true rfl), (Nat.le_of_ble_eq_true rfl)⟩ dX13_areLike_1 (fun v3 => ?_)
  refine dn_ifz_eq (pc := 4) 68 dX13_areLike_4 rfl (fun _ => ?_) (fun _ => ?_)
  · refine dn_iload (pc := 7) 3 dX13_areLike_7 rfl ?_
    refine dn_callS0Z (pc := 9) [.int p5]  kRX13_219 (mX13_isNumber w x b p5) rfl rfl (Nat.le_of_ble_eq_true rfl) ⟨(Nat.le_of_ble_eq_true rfl), (Nat.le_of_ble_eq_true rfl)⟩ ⟨rfl, rfl, (Nat.le_of_ble_eq_true rfl), (Nat.le_of_ble_eq_true rfl)⟩ dX13_areLike_9 (fun v4 => ?_)
    refine dn_ifz_eq (pc := 12) 68 dX13_areLike_12 rfl (fun _ => ?_) (fun _ => ?_)
    · refine dn_iload_n (pc := 15) 0 dX13_areLike_15 rfl ?_
      refine dn_bipush (pc := 16) (v := 6) dX13_areLike_16 rfl ?_
      refine dn_icmp_ge (pc := 18) 43 dX13_areLike_18 rfl (fun _ => ?_) (fun _ => ?_)
      · exact dn_lv [0, 1, 2, 3, 4, 5] rfl (hj43 p0 p1 p3 p5 p6 p8)
      · refine dn_iload (pc := 21) 3 dX13_areLike_21 rfl ?_
        refine dn_bipush (pc := 23) (v := 6) dX13_areLike_23 rfl ?_
        refine dn_icmp_ge (pc := 25) 43 dX13_areLike_25 rfl (fun _ => ?_) (fun _ => ?_)
        · exact dn_lv [0, 1, 2, 3, 4, 5] rfl (hj43 p0 p1 p3 p5 p6 p8)
        · refine dn_lload_n (pc := 28) 1 dX13_areLike_28 rfl ?_
          refine dn_lload (pc := 29) 4 dX13_areLike_29 rfl ?_
          refine dn_lcmp (pc := 31) dX13_areLike_31 ?_
          refine dn_if_ne (pc := 32) 39 dX13_areLike_32 rfl (fun _ => ?_) (fun _ => ?_)
          · refine dn_iconst (pc := 39) (v := 0) dX13_areLike_39 rfl ?_
            refine dn_goto (pc := 40) 67 dX13_areLike_40 rfl ?_
            exact dn_ret (Nat.le_of_ble_eq_true rfl) (Nat.le_of_ble_eq_true rfl) rfl dX13_areLike_67
          · refine dn_iconst (pc := 35) (v := 1) dX13_areLike_35 rfl ?_
            refine dn_goto (pc := 36) 67 dX13_areLike_36 rfl ?_
            exact dn_ret (Nat.le_of_ble_eq_true rfl) (Nat.le_of_ble_eq_true rfl) rfl dX13_areLike_67
    · exact dn_lv [0, 1, 3, 4] rfl (hj68 p0 p1 p5 p6)
  · exact dn_lv [0, 1, 3, 4] rfl (hj68 p0 p1 p5 p6)
abbrev rmX13_cellsLike : Room := { frames := 3, cells := 0, slots := 0, locals := 71 }
def fX13_cellsLike (r0 : Option Nat) (p1 : Int32) (p2 : Int32) : dnM Bool :=
  dnB (dnGR r0 11 9) fun v1 =>
  dnB (dnAI v1 100 p1) fun v2 =>
  dnB (dnGR r0 11 10) fun v3 =>
  dnB (dnAL v3 102 p1) fun v4 =>
  dnB (dnGR r0 11 11) fun v5 =>
  dnB (dnAD v5 103 p1) fun v6 =>
  dnB (dnGR r0 11 9) fun v7 =>
  dnB (dnAI v7 100 p2) fun v8 =>
  dnB (dnGR r0 11 10) fun v9 =>
  dnB (dnAL v9 102 p2) fun v10 =>
  dnB (dnGR r0 11 11) fun v11 =>
  dnB (dnAD v11 103 p2) fun v12 =>
  dnB (fX13_areLike v2 v4 v6 v8 v10 v12) fun v13 =>
  dnP v13
abbrev jX13_cellsLike (w : dnWd) (x : dnX) (b : Nat) := dnD w x b (fun _ => True) cX13_cellsLike RX13 3 rmX13_cellsLike "cellsLike" eZ
set_option maxHeartbeats 4000000 in
set_option maxRecDepth 100000 in
theorem mX13_cellsLike (w : dnWd) (x : dnX) (b : Nat) (r0 : Option Nat) (p1 : Int32) (p2 : Int32) : dnMt w x b yX13_cellsLike cX13_cellsLike 3 (some .boolean) rmX13_cellsLike eZ [dnV b r0, .int p1, .int p2] (fX13_cellsLike r0 p1 p2) := by
  have hlv : lv_args 0 [dnV b r0, .int p1, .int p2] = [(0, dnV b r0), (1, .int p1), (2, .int p2)] := by cases r0 <;> rfl
  refine dn_mt (by decide +kernel) roZ (by cases r0 <;> exact (Nat.le_of_ble_eq_true rfl)) ?_
  rw [hlv]
  refine dn_top ?_
  show jX13_cellsLike w x b 0 0 0 _ [] (dnB _ dnP)
  unfold fX13_cellsLike
  refine dn_aload_n (pc := 0) r0 0 dX13_cellsLike_0 rfl ?_
  refine dn_getR (pc := 1) r0 lRX13_32 dX13_cellsLike_1 (fun v1 => ?_)
  refine dn_iload_n (pc := 4) 1 dX13_cellsLike_4 rfl ?_
  refine dn_iald (pc := 5) v1 dX13_cellsLike_5 (fun v2 => ?_)
  refine dn_aload_n (pc := 6) r0 0 dX13_cellsLike_6 rfl ?_
  refine dn_getR (pc := 7) r0 lRX13_35 dX13_cellsLike_7 (fun v3 => ?_)
  refine dn_iload_n (pc := 10) 1 dX13_cellsLike_10 rfl ?_
  refine dn_lald (pc := 11) v3 dX13_cellsLike_11 (fun v4 => ?_)
  refine dn_aload_n (pc := 12) r0 0 dX13_cellsLike_12 rfl ?_
  refine dn_getR (pc := 13) r0 lRX13_39 dX13_cellsLike_13 (fun v5 => ?_)
  refine dn_iload_n (pc := 16) 1 dX13_cellsLike_16 rfl ?_
  refine dn_dald (pc := 17) v5 dX13_cellsLike_17 (fun v6 => ?_)
  refine dn_aload_n (pc := 18) r0 0 dX13_cellsLike_18 rfl ?_
  refine dn_getR (pc := 19) r0 lRX13_32 dX13_cellsLike_19 (fun v7 => ?_)
  refine dn_iload_n (pc := 22) 2 dX13_cellsLike_22 rfl ?_
  refine dn_iald (pc := 23) v7 dX13_cellsLike_23 (fun v8 => ?_)
  refine dn_aload_n (pc := 24) r0 0 dX13_cellsLike_24 rfl ?_
  refine dn_getR (pc := 25) r0 lRX13_35 dX13_cellsLike_25 (fun v9 => ?_)
  refine dn_iload_n (pc := 28) 2 dX13_cellsLike_28 rfl ?_
  refine dn_lald (pc := 29) v9 dX13_cellsLike_29 (fun v10 => ?_)
  refine dn_aload_n (pc := 30) r0 0 dX13_cellsLike_30 rfl ?_
  refine dn_getR (pc := 31) r0 lRX13_39 dX13_cellsLike_31 (fun v11 => ?_)
  refine dn_iload_n (pc := 34) 2 dX13_cellsLike_34 rfl ?_
  refine dn_dald (pc := 35) v11 dX13_cellsLike_35 (fun v12 => ?_)
  refine dn_callS0Z (pc := 36) [.int v2, .long v4, .double v6, .int v8, .long v10, .double v12]  kRX13_226 (mX13_areLike w x b v2 v4 v6 v8 v10 v12) rfl rfl (Nat.le_of_ble_eq_true rfl) ⟨(Nat.le_of_ble_eq_true rfl), (Nat.le_of_ble_eq_true rfl)⟩ ⟨rfl, rfl, (Nat.le_of_ble_eq_true rfl), (Nat.le_of_ble_eq_true rfl)⟩ dX13_cellsLike_36 (fun v13 => ?_)
  exact dn_ret (Nat.le_of_ble_eq_true rfl) (Nat.le_of_ble_eq_true rfl) rfl dX13_cellsLike_39
abbrev rmX13_twoRows : Room := { frames := 3, cells := 0, slots := 0, locals := 68 }
def fX13_twoRows (r0 : Option Nat) (p1 : Int32) (p2 : Int32) (p3 : Int32) (p4 : Int32) : dnM Int32 :=
  dnB (dnCv r0 11 (fX13_rowFault r0 p1 p2)) fun v1 =>
  if v1 = 0 then
  (dnB (dnCv r0 11 (fX13_rowFault r0 p3 p4)) fun v2 =>
  dnP v2)
  else
  (dnP v1)
abbrev jX13_twoRows (w : dnWd) (x : dnX) (b : Nat) := dnD w x b (fun _ => True) cX13_twoRows RX13 6 rmX13_twoRows "twoRows" eI
set_option maxHeartbeats 4000000 in
set_option maxRecDepth 100000 in
theorem mX13_twoRows (w : dnWd) (x : dnX) (b : Nat) (r0 : Option Nat) (p1 : Int32) (p2 : Int32) (p3 : Int32) (p4 : Int32) : dnMt w x b yX13_twoRows cX13_twoRows 6 (some .int) rmX13_twoRows eI [dnV b r0, .int p1, .int p2, .int p3, .int p4] (fX13_twoRows r0 p1 p2 p3 p4) := by
  have hlv : lv_args 0 [dnV b r0, .int p1, .int p2, .int p3, .int p4] = [(0, dnV b r0), (1, .int p1), (2, .int p2), (3, .int p3), (4, .int p4)] := by cases r0 <;> rfl
  refine dn_mt (by decide +kernel) roI (by cases r0 <;> exact (Nat.le_of_ble_eq_true rfl)) ?_
  rw [hlv]
  refine dn_top ?_
  show jX13_twoRows w x b 0 0 0 _ [] (dnB _ dnP)
  unfold fX13_twoRows
  refine dn_aload_n (pc := 0) r0 0 dX13_twoRows_0 rfl ?_
  refine dn_iload_n (pc := 1) 1 dX13_twoRows_1 rfl ?_
  refine dn_iload_n (pc := 2) 2 dX13_twoRows_2 rfl ?_
  refine dn_callV0I (pc := 3) [.int p1, .int p2] r0 kRX13_131 (mX13_rowFault w x b r0 p1 p2) rfl rfl (Nat.le_of_ble_eq_true rfl) ⟨(Nat.le_of_ble_eq_true rfl), (Nat.le_of_ble_eq_true rfl)⟩ ⟨rfl, rfl, (Nat.le_of_ble_eq_true rfl), (Nat.le_of_ble_eq_true rfl)⟩ dX13_twoRows_3 (fun v1 => ?_)
  refine dn_istore (pc := 6) dX13_twoRows_6 (Nat.le_of_ble_eq_true rfl) (dnKp_nb 4 rfl rfl rfl (dnKp_of (lv2 := [(0, dnV b r0), (3, .int p3)]) [0, 3] rfl rfl)) ?_
  refine dn_iload (pc := 8) 0 dX13_twoRows_8 rfl ?_
  refine dn_if_eq (pc := 10) 18 dX13_twoRows_10 rfl (fun _ => ?_) (fun _ => ?_)
  · refine dn_aload_n (pc := 18) r0 2 dX13_twoRows_18 rfl ?_
    refine dn_iload_n (pc := 19) 3 dX13_twoRows_19 rfl ?_
    refine dn_iload (pc := 20) 1 dX13_twoRows_20 rfl ?_
    refine dn_callV0I (pc := 22) [.int p3, .int p4] r0 kRX13_131 (mX13_rowFault w x b r0 p3 p4) rfl rfl (Nat.le_of_ble_eq_true rfl) ⟨(Nat.le_of_ble_eq_true rfl), (Nat.le_of_ble_eq_true rfl)⟩ ⟨rfl, rfl, (Nat.le_of_ble_eq_true rfl), (Nat.le_of_ble_eq_true rfl)⟩ dX13_twoRows_22 (fun v2 => ?_)
    exact dn_ret (Nat.le_of_ble_eq_true rfl) (Nat.le_of_ble_eq_true rfl) rfl dX13_twoRows_25
  · refine dn_iload (pc := 13) 0 dX13_twoRows_13 rfl ?_
    refine dn_goto (pc := 15) 25 dX13_twoRows_15 rfl ?_
    exact dn_ret (Nat.le_of_ble_eq_true rfl) (Nat.le_of_ble_eq_true rfl) rfl dX13_twoRows_25
abbrev rmX13_alikeAnswer : Room := { frames := 4, cells := 0, slots := 0, locals := 93 }
def fX13_alikeAnswer_j101 (l0 : Option Nat) (l6 : Int32) (l7 : Int32) (l9 : Int32) (s0 : Int32) (s1 : Bool) : dnM ((Int32 × Int32) ⊕ (Int32)) :=
  dnP (.inl ((s0 + (dnZ s1)), (l9 + 1)))
def fX13_alikeAnswer_b58 (c0 : Option Nat) (c6 : Int32) (c7 : Int32) (s58 : Int32 × Int32) : dnM ((Int32 × Int32) ⊕ (Int32)) :=
  dnB (dnCv c0 11 (fX13_both c0 c6 c7)) fun v6 =>
  if v6 ≤ s58.2 then
  (dnP (.inr s58.1))
  else
  (dnB (dnCv c0 11 (fX13_cellsLike c0 ((12 * c6) + s58.2) ((12 * c7) + s58.2))) fun v7 =>
  if v7 = true then
  (fX13_alikeAnswer_j101 c0 c6 c7 s58.2 s58.1 true)
  else
  (fX13_alikeAnswer_j101 c0 c6 c7 s58.2 s58.1 false))
def fX13_alikeAnswer (r0 : Option Nat) (p1 : Int32) (p2 : Int32) (p3 : Int32) (p4 : Int32) : dnM Int32 :=
  dnB (fX13_isGrid p1) fun v1 =>
  if v1 = true then
  (dnB (fX13_isGrid p3) fun v2 =>
  if v2 = true then
  (dnB (dnCv r0 11 (fX13_twoRows r0 p1 p2 p3 p4)) fun v3 =>
  if v3 = 0 then
  (dnB (dnCv r0 11 (fX13_held r0 p1 p2)) fun v4 =>
  dnB (dnCv r0 11 (fX13_held r0 p3 p4)) fun v5 =>
  dnB (dnIt 1000 (fX13_alikeAnswer_b58 r0 v4 v5) (0, 0)) fun q58 =>
  dnP q58)
  else
  (dnP v3))
  else
  (dnP (-1)))
  else
  (dnP (-1))
abbrev jX13_alikeAnswer (w : dnWd) (x : dnX) (b : Nat) := dnD w x b (fun _ => True) cX13_alikeAnswer RX13 10 rmX13_alikeAnswer "alikeAnswer" eI
set_option maxHeartbeats 4000000 in
set_option maxRecDepth 100000 in
theorem mX13_alikeAnswer (w : dnWd) (x : dnX) (b : Nat) (r0 : Option Nat) (p1 : Int32) (p2 : Int32) (p3 : Int32) (p4 : Int32) : dnMt w x b yX13_alikeAnswer cX13_alikeAnswer 10 (some .int) rmX13_alikeAnswer eI [dnV b r0, .int p1, .int p2, .int p3, .int p4] (fX13_alikeAnswer r0 p1 p2 p3 p4) := by
  have hlv : lv_args 0 [dnV b r0, .int p1, .int p2, .int p3, .int p4] = [(0, dnV b r0), (1, .int p1), (2, .int p2), (3, .int p3), (4, .int p4)] := by cases r0 <;> rfl
  refine dn_mt (by decide +kernel) roI (by cases r0 <;> exact (Nat.le_of_ble_eq_true rfl)) ?_
  rw [hlv]
  refine dn_top ?_
  show jX13_alikeAnswer w x b 0 0 0 _ [] (dnB _ dnP)
  unfold fX13_alikeAnswer
  refine dn_iload_n (pc := 0) 1 dX13_alikeAnswer_0 rfl ?_
  refine dn_callS0Z (pc := 1) [.int p1]  kRX13_134 (mX13_isGrid w x b p1) rfl rfl (Nat.le_of_ble_eq_true rfl) ⟨(Nat.le_of_ble_eq_true rfl), (Nat.le_of_ble_eq_true rfl)⟩ ⟨rfl, rfl, (Nat.le_of_ble_eq_true rfl), (Nat.le_of_ble_eq_true rfl)⟩ dX13_alikeAnswer_1 (fun v1 => ?_)
  refine dn_ifz_eq (pc := 4) 14 dX13_alikeAnswer_4 rfl (fun _ => ?_) (fun _ => ?_)
  · refine dn_iload_n (pc := 7) 3 dX13_alikeAnswer_7 rfl ?_
    refine dn_callS0Z (pc := 8) [.int p3]  kRX13_134 (mX13_isGrid w x b p3) rfl rfl (Nat.le_of_ble_eq_true rfl) ⟨(Nat.le_of_ble_eq_true rfl), (Nat.le_of_ble_eq_true rfl)⟩ ⟨rfl, rfl, (Nat.le_of_ble_eq_true rfl), (Nat.le_of_ble_eq_true rfl)⟩ dX13_alikeAnswer_8 (fun v2 => ?_)
    refine dn_ifz_ne (pc := 11) 16 dX13_alikeAnswer_11 rfl (fun _ => ?_) (fun _ => ?_)
    · refine dn_aload_n (pc := 16) r0 0 dX13_alikeAnswer_16 rfl ?_
      refine dn_iload_n (pc := 17) 1 dX13_alikeAnswer_17 rfl ?_
      refine dn_iload_n (pc := 18) 2 dX13_alikeAnswer_18 rfl ?_
      refine dn_iload_n (pc := 19) 3 dX13_alikeAnswer_19 rfl ?_
      refine dn_iload (pc := 20) 4 dX13_alikeAnswer_20 rfl ?_
      refine dn_callV0I (pc := 22) [.int p1, .int p2, .int p3, .int p4] r0 kRX13_181 (mX13_twoRows w x b r0 p1 p2 p3 p4) rfl rfl (Nat.le_of_ble_eq_true rfl) ⟨(Nat.le_of_ble_eq_true rfl), (Nat.le_of_ble_eq_true rfl)⟩ ⟨rfl, rfl, (Nat.le_of_ble_eq_true rfl), (Nat.le_of_ble_eq_true rfl)⟩ dX13_alikeAnswer_22 (fun v3 => ?_)
      refine dn_istore (pc := 25) dX13_alikeAnswer_25 (Nat.le_of_ble_eq_true rfl) (dnKp_nb 4 rfl rfl rfl (dnKp_of (lv2 := [(0, dnV b r0), (1, .int p1), (2, .int p2), (3, .int p3)]) [0, 1, 2, 3] rfl rfl)) ?_
      refine dn_iload (pc := 27) 0 dX13_alikeAnswer_27 rfl ?_
      refine dn_if_eq (pc := 29) 35 dX13_alikeAnswer_29 rfl (fun _ => ?_) (fun _ => ?_)
      · refine dn_aload_n (pc := 35) r0 2 dX13_alikeAnswer_35 rfl ?_
        refine dn_iload_n (pc := 36) 3 dX13_alikeAnswer_36 rfl ?_
        refine dn_iload_n (pc := 37) 4 dX13_alikeAnswer_37 rfl ?_
        refine dn_callV0I (pc := 38) [.int p1, .int p2] r0 kRX13_128 (mX13_held w x b r0 p1 p2) rfl rfl (Nat.le_of_ble_eq_true rfl) ⟨(Nat.le_of_ble_eq_true rfl), (Nat.le_of_ble_eq_true rfl)⟩ ⟨rfl, rfl, (Nat.le_of_ble_eq_true rfl), (Nat.le_of_ble_eq_true rfl)⟩ dX13_alikeAnswer_38 (fun v4 => ?_)
        refine dn_istore (pc := 41) dX13_alikeAnswer_41 (Nat.le_of_ble_eq_true rfl) (dnKp_of (lv2 := [(4, .int p4), (0, dnV b r0), (3, .int p3)]) [1, 2, 5] rfl rfl) ?_
        refine dn_aload_n (pc := 43) r0 2 dX13_alikeAnswer_43 rfl ?_
        refine dn_iload_n (pc := 44) 3 dX13_alikeAnswer_44 rfl ?_
        refine dn_iload (pc := 45) 1 dX13_alikeAnswer_45 rfl ?_
        refine dn_callV0I (pc := 47) [.int p3, .int p4] r0 kRX13_128 (mX13_held w x b r0 p3 p4) rfl rfl (Nat.le_of_ble_eq_true rfl) ⟨(Nat.le_of_ble_eq_true rfl), (Nat.le_of_ble_eq_true rfl)⟩ ⟨rfl, rfl, (Nat.le_of_ble_eq_true rfl), (Nat.le_of_ble_eq_true rfl)⟩ dX13_alikeAnswer_47 (fun v5 => ?_)
        refine dn_istore (pc := 50) dX13_alikeAnswer_50 (Nat.le_of_ble_eq_true rfl) (dnKp_nb 0 rfl rfl rfl (dnKp_of (lv2 := [(0, dnV b r0)]) [2] rfl rfl)) ?_
        refine dn_iconst (pc := 52) (v := 0) dX13_alikeAnswer_52 rfl ?_
        refine dn_istore (pc := 53) dX13_alikeAnswer_53 (Nat.le_of_ble_eq_true rfl) (dnKp_nb 0 rfl rfl rfl (dnKp_of (lv2 := [(6, .int v4), (0, dnV b r0)]) [1, 2] rfl rfl)) ?_
        refine dn_iconst (pc := 55) (v := 0) dX13_alikeAnswer_55 rfl ?_
        refine dn_istore (pc := 56) dX13_alikeAnswer_56 (Nat.le_of_ble_eq_true rfl) (dnKp_nb 0 rfl rfl rfl (dnKp_of (lv2 := [(7, .int v5), (6, .int v4), (0, dnV b r0)]) [1, 2, 3] rfl rfl)) ?_
        refine dn_assoc ?_
        refine dn_lv [4, 3, 2, 1, 0] (lv2 := (fun s => [(0, dnV b r0), (6, .int v4), (7, .int v5), (8, .int s.1), (9, .int s.2)]) (0, 0)) rfl ?_
        refine dn_loopE (pc := 58) (body := fX13_alikeAnswer_b58 r0 v4 v5) 110 (fun s => [(0, dnV b r0), (6, .int v4), (7, .int v5), (8, .int s.1), (9, .int s.2)]) (fun q => [(8, .int q)]) (fun s58 K58 E58 hK58 hE58 => ?_) (fun q58 => ?_) 1000 (0, 0)
        · unfold fX13_alikeAnswer_b58
          have hj101 : ∀ (l9 : Int32) (s0 : Int32) (s1 : Bool), jX13_alikeAnswer w x b 101 0 0 [(0, dnV b r0), (6, .int v4), (7, .int v5), (9, .int l9)] [.int (dnZ s1), .int s0] (dnB (fX13_alikeAnswer_j101 r0 v4 v5 l9 s0 s1) (dnKo K58 E58)) := by
            intro l9 s0 s1
            unfold fX13_alikeAnswer_j101
            refine dn_iadd (pc := 101) dX13_alikeAnswer_101 ?_
            refine dn_istore (pc := 102) dX13_alikeAnswer_102 (Nat.le_of_ble_eq_true rfl) (dnKp_nb 2 rfl rfl rfl (dnKp_of (lv2 := [(0, dnV b r0), (6, .int v4), (9, .int l9)]) [0, 1, 3] rfl rfl)) ?_
            refine dn_iinc (pc := 104) (l9 + 1) 4 dX13_alikeAnswer_104 rfl rfl (Nat.le_of_ble_eq_true rfl) (dnKp_nb 0 rfl rfl rfl (dnKp_of (lv2 := [(7, .int v5), (0, dnV b r0), (6, .int v4)]) [1, 2, 3] rfl rfl)) ?_
            refine dn_goto (pc := 107) 58 dX13_alikeAnswer_107 rfl ?_
            refine dn_leaf ?_
            exact dn_lv [3, 4, 2, 1, 0] rfl (hK58 ((s0 + (dnZ s1)), (l9 + 1)))
          refine dn_iload (pc := 58) 4 dX13_alikeAnswer_58 rfl ?_
          refine dn_aload_n (pc := 60) r0 0 dX13_alikeAnswer_60 rfl ?_
          refine dn_iload (pc := 61) 1 dX13_alikeAnswer_61 rfl ?_
          refine dn_iload (pc := 63) 2 dX13_alikeAnswer_63 rfl ?_
          refine dn_callV0I (pc := 65) [.int v4, .int v5] r0 kRX13_271 (mX13_both w x b r0 v4 v5) rfl rfl (Nat.le_of_ble_eq_true rfl) ⟨(Nat.le_of_ble_eq_true rfl), (Nat.le_of_ble_eq_true rfl)⟩ ⟨rfl, rfl, (Nat.le_of_ble_eq_true rfl), (Nat.le_of_ble_eq_true rfl)⟩ dX13_alikeAnswer_65 (fun v6 => ?_)
          refine dn_icmp_ge (pc := 68) 110 dX13_alikeAnswer_68 rfl (fun _ => ?_) (fun _ => ?_)
          · refine dn_leaf ?_
            exact dn_lv [3] rfl (hE58 s58.1)
          · refine dn_iload (pc := 71) 3 dX13_alikeAnswer_71 rfl ?_
            refine dn_aload_n (pc := 73) r0 0 dX13_alikeAnswer_73 rfl ?_
            refine dn_bipush (pc := 74) (v := 12) dX13_alikeAnswer_74 rfl ?_
            refine dn_iload (pc := 76) 1 dX13_alikeAnswer_76 rfl ?_
            refine dn_imul (pc := 78) dX13_alikeAnswer_78 ?_
            refine dn_iload (pc := 79) 4 dX13_alikeAnswer_79 rfl ?_
            refine dn_iadd (pc := 81) dX13_alikeAnswer_81 ?_
            refine dn_bipush (pc := 82) (v := 12) dX13_alikeAnswer_82 rfl ?_
            refine dn_iload (pc := 84) 2 dX13_alikeAnswer_84 rfl ?_
            refine dn_imul (pc := 86) dX13_alikeAnswer_86 ?_
            refine dn_iload (pc := 87) 4 dX13_alikeAnswer_87 rfl ?_
            refine dn_iadd (pc := 89) dX13_alikeAnswer_89 ?_
            refine dn_callV0Z (pc := 90) [.int ((12 * v4) + s58.2), .int ((12 * v5) + s58.2)] r0 kRX13_274 (mX13_cellsLike w x b r0 ((12 * v4) + s58.2) ((12 * v5) + s58.2)) rfl rfl (Nat.le_of_ble_eq_true rfl) ⟨(Nat.le_of_ble_eq_true rfl), (Nat.le_of_ble_eq_true rfl)⟩ ⟨rfl, rfl, (Nat.le_of_ble_eq_true rfl), (Nat.le_of_ble_eq_true rfl)⟩ dX13_alikeAnswer_90 (fun v7 => ?_)
            refine dn_ifz_eq (pc := 93) 100 dX13_alikeAnswer_93 rfl (fun _ => ?_) (fun _ => ?_)
            · refine dn_iconst (pc := 96) (v := 1) dX13_alikeAnswer_96 rfl ?_
              refine dn_goto (pc := 97) 101 dX13_alikeAnswer_97 rfl ?_
              exact dn_lv [0, 1, 2, 4] rfl (hj101 s58.2 s58.1 true)
            · refine dn_iconst (pc := 100) (v := 0) dX13_alikeAnswer_100 rfl ?_
              exact dn_lv [0, 1, 2, 4] rfl (hj101 s58.2 s58.1 false)
        · refine dn_iload (pc := 110) 0 dX13_alikeAnswer_110 rfl ?_
          exact dn_ret (Nat.le_of_ble_eq_true rfl) (Nat.le_of_ble_eq_true rfl) rfl dX13_alikeAnswer_112
      · refine dn_iload (pc := 32) 0 dX13_alikeAnswer_32 rfl ?_
        exact dn_ret (Nat.le_of_ble_eq_true rfl) (Nat.le_of_ble_eq_true rfl) rfl dX13_alikeAnswer_34
    · refine dn_iconst (pc := 14) (v := -1) dX13_alikeAnswer_14 rfl ?_
      exact dn_ret (Nat.le_of_ble_eq_true rfl) (Nat.le_of_ble_eq_true rfl) rfl dX13_alikeAnswer_15
  · refine dn_iconst (pc := 14) (v := -1) dX13_alikeAnswer_14 rfl ?_
    exact dn_ret (Nat.le_of_ble_eq_true rfl) (Nat.le_of_ble_eq_true rfl) rfl dX13_alikeAnswer_15
abbrev rmX13_alike : Room := { frames := 5, cells := 0, slots := 0, locals := 122 }
def fX13_alike (r0 : Option Nat) (p1 : Int32) (p2 : Int32) (p3 : Int32) (p4 : Int32) : dnM Int32 :=
  dnB (dnCv r0 11 (fX13_alikeAnswer r0 p1 p2 p3 p4)) fun v1 =>
  dnB (dnCv r0 11 (fX13_said r0 v1)) fun v2 =>
  dnP v2
abbrev jX13_alike (w : dnWd) (x : dnX) (b : Nat) := dnD w x b (fun _ => True) cX13_alike RX13 5 rmX13_alike "alike" eI
set_option maxHeartbeats 4000000 in
set_option maxRecDepth 100000 in
theorem mX13_alike (w : dnWd) (x : dnX) (b : Nat) (r0 : Option Nat) (p1 : Int32) (p2 : Int32) (p3 : Int32) (p4 : Int32) : dnMt w x b yX13_alike cX13_alike 5 (some .int) rmX13_alike eI [dnV b r0, .int p1, .int p2, .int p3, .int p4] (fX13_alike r0 p1 p2 p3 p4) := by
  have hlv : lv_args 0 [dnV b r0, .int p1, .int p2, .int p3, .int p4] = [(0, dnV b r0), (1, .int p1), (2, .int p2), (3, .int p3), (4, .int p4)] := by cases r0 <;> rfl
  refine dn_mt (by decide +kernel) roI (by cases r0 <;> exact (Nat.le_of_ble_eq_true rfl)) ?_
  rw [hlv]
  refine dn_top ?_
  show jX13_alike w x b 0 0 0 _ [] (dnB _ dnP)
  unfold fX13_alike
  refine dn_aload_n (pc := 0) r0 0 dX13_alike_0 rfl ?_
  refine dn_aload_n (pc := 1) r0 0 dX13_alike_1 rfl ?_
  refine dn_iload_n (pc := 2) 1 dX13_alike_2 rfl ?_
  refine dn_iload_n (pc := 3) 2 dX13_alike_3 rfl ?_
  refine dn_iload_n (pc := 4) 3 dX13_alike_4 rfl ?_
  refine dn_iload (pc := 5) 4 dX13_alike_5 rfl ?_
  refine dn_callV0I (pc := 7) [.int p1, .int p2, .int p3, .int p4] r0 kRX13_277 (mX13_alikeAnswer w x b r0 p1 p2 p3 p4) rfl rfl (Nat.le_of_ble_eq_true rfl) ⟨(Nat.le_of_ble_eq_true rfl), (Nat.le_of_ble_eq_true rfl)⟩ ⟨rfl, rfl, (Nat.le_of_ble_eq_true rfl), (Nat.le_of_ble_eq_true rfl)⟩ dX13_alike_7 (fun v1 => ?_)
  refine dn_callV0I (pc := 10) [.int v1] r0 kRX13_137 (mX13_said w x b r0 v1) rfl rfl (Nat.le_of_ble_eq_true rfl) ⟨(Nat.le_of_ble_eq_true rfl), (Nat.le_of_ble_eq_true rfl)⟩ ⟨rfl, rfl, (Nat.le_of_ble_eq_true rfl), (Nat.le_of_ble_eq_true rfl)⟩ dX13_alike_10 (fun v2 => ?_)
  exact dn_ret (Nat.le_of_ble_eq_true rfl) (Nat.le_of_ble_eq_true rfl) rfl dX13_alike_13
abbrev rmX13_anew : Room := { frames := 1, cells := 0, slots := 0, locals := 23 }
def fX13_anew_b9 (c0 : Option Nat) (c1 : Int32) (s9 : Int32) : dnM ((Int32) ⊕ (Unit)) :=
  if 6 ≤ s9 then
  (dnP (.inr ()))
  else
  (dnB (dnCv c0 11 (fX13_holdsNow c0 c1 s9 (-1))) fun _ =>
  dnP (.inl (s9 + 1)))
def fX13_anew (r0 : Option Nat) (p1 : Int32) (p2 : Int32) : dnM Unit :=
  dnB (dnGR r0 11 4) fun v1 =>
  dnB (dnTI v1 100 p1 p2) fun _ =>
  dnB (dnIt 1000 (fX13_anew_b9 r0 p1) 0) fun q9 =>
  dnP ()
abbrev jX13_anew (w : dnWd) (x : dnX) (b : Nat) := dnD w x b (fun _ => True) cX13_anew RX13 4 rmX13_anew "anew" eU
set_option maxHeartbeats 4000000 in
set_option maxRecDepth 100000 in
theorem mX13_anew (w : dnWd) (x : dnX) (b : Nat) (r0 : Option Nat) (p1 : Int32) (p2 : Int32) : dnMt w x b yX13_anew cX13_anew 4 none rmX13_anew eU [dnV b r0, .int p1, .int p2] (fX13_anew r0 p1 p2) := by
  have hlv : lv_args 0 [dnV b r0, .int p1, .int p2] = [(0, dnV b r0), (1, .int p1), (2, .int p2)] := by cases r0 <;> rfl
  refine dn_mt (by decide +kernel) roU (by cases r0 <;> exact (Nat.le_of_ble_eq_true rfl)) ?_
  rw [hlv]
  refine dn_top ?_
  show jX13_anew w x b 0 0 0 _ [] (dnB _ dnP)
  unfold fX13_anew
  refine dn_aload_n (pc := 0) r0 0 dX13_anew_0 rfl ?_
  refine dn_getR (pc := 1) r0 lRX13_17 dX13_anew_1 (fun v1 => ?_)
  refine dn_iload_n (pc := 4) 1 dX13_anew_4 rfl ?_
  refine dn_iload_n (pc := 5) 2 dX13_anew_5 rfl ?_
  refine dn_iast (pc := 6) v1 dX13_anew_6 ?_
  refine dn_iconst (pc := 7) (v := 0) dX13_anew_7 rfl ?_
  refine dn_istore_n (pc := 8) dX13_anew_8 (Nat.le_of_ble_eq_true rfl) (dnKp_of (lv2 := [(0, dnV b r0), (1, .int p1)]) [0, 1] rfl rfl) ?_
  refine dn_assoc ?_
  refine dn_lv [1, 2, 0] (lv2 := (fun s => [(0, dnV b r0), (1, .int p1), (3, .int s)]) 0) rfl ?_
  refine dn_loopE (pc := 9) (body := fX13_anew_b9 r0 p1) 28 (fun s => [(0, dnV b r0), (1, .int p1), (3, .int s)]) (fun q => []) (fun s9 K9 E9 hK9 hE9 => ?_) (fun q9 => ?_) 1000 0
  · unfold fX13_anew_b9
    refine dn_iload_n (pc := 9) 2 dX13_anew_9 rfl ?_
    refine dn_bipush (pc := 10) (v := 6) dX13_anew_10 rfl ?_
    refine dn_icmp_ge (pc := 12) 28 dX13_anew_12 rfl (fun _ => ?_) (fun _ => ?_)
    · refine dn_leaf ?_
      exact dn_lv [] rfl (hE9 ())
    · refine dn_aload_n (pc := 15) r0 0 dX13_anew_15 rfl ?_
      refine dn_iload_n (pc := 16) 1 dX13_anew_16 rfl ?_
      refine dn_iload_n (pc := 17) 2 dX13_anew_17 rfl ?_
      refine dn_iconst (pc := 18) (v := -1) dX13_anew_18 rfl ?_
      refine dn_callV0U (pc := 19) [.int p1, .int s9, .int (-1)] r0 kRX13_145 (mX13_holdsNow w x b r0 p1 s9 (-1)) rfl rfl (Nat.le_of_ble_eq_true rfl) ⟨(Nat.le_of_ble_eq_true rfl), (Nat.le_of_ble_eq_true rfl)⟩ ⟨rfl, rfl, (Nat.le_of_ble_eq_true rfl), (Nat.le_of_ble_eq_true rfl)⟩ dX13_anew_19 (fun _ => ?_)
      refine dn_iinc (pc := 22) (s9 + 1) 2 dX13_anew_22 rfl rfl (Nat.le_of_ble_eq_true rfl) (dnKp_of (lv2 := [(0, dnV b r0), (1, .int p1)]) [0, 1] rfl rfl) ?_
      refine dn_goto (pc := 25) 9 dX13_anew_25 rfl ?_
      refine dn_leaf ?_
      exact dn_lv [1, 2, 0] rfl (hK9 (s9 + 1))
  · exact dn_ret (Nat.le_of_ble_eq_true rfl) (Nat.le_of_ble_eq_true rfl) rfl dX13_anew_28
abbrev rmX13_comesBack : Room := { frames := 0, cells := 0, slots := 0, locals := 0 }
def fX13_comesBack_b2 (c0 : Option Nat) (c1 : Int32) (s2 : Int32) : dnM ((Int32) ⊕ (Unit)) :=
  if 4 ≤ s2 then
  (dnP (.inr ()))
  else
  (dnB (dnGR c0 11 4) fun v1 =>
  dnB (dnGR c0 11 29) fun v2 =>
  dnB (dnAI v2 100 ((4 * c1) + s2)) fun v3 =>
  dnB (dnTI v1 100 s2 v3) fun _ =>
  dnP (.inl (s2 + 1)))
def fX13_comesBack_b31 (c0 : Option Nat) (c1 : Int32) (s31 : Int32) : dnM ((Int32) ⊕ (Unit)) :=
  if 24 ≤ s31 then
  (dnP (.inr ()))
  else
  (dnB (dnGR c0 11 5) fun v4 =>
  dnB (dnGR c0 11 30) fun v5 =>
  dnB (dnAI v5 100 ((24 * c1) + s31)) fun v6 =>
  dnB (dnTI v4 100 s31 v6) fun _ =>
  dnP (.inl (s31 + 1)))
def fX13_comesBack_b62 (c0 : Option Nat) (c1 : Int32) (s62 : Int32) : dnM ((Int32) ⊕ (Unit)) :=
  if 32 ≤ s62 then
  (dnP (.inr ()))
  else
  (dnB (dnGR c0 11 6) fun v7 =>
  dnB (dnGR c0 11 31) fun v8 =>
  dnB (dnAI v8 100 ((32 * c1) + s62)) fun v9 =>
  dnB (dnTI v7 100 s62 v9) fun _ =>
  dnB (dnGR c0 11 7) fun v10 =>
  dnB (dnGR c0 11 32) fun v11 =>
  dnB (dnAI v11 100 ((32 * c1) + s62)) fun v12 =>
  dnB (dnTI v10 100 s62 v12) fun _ =>
  dnP (.inl (s62 + 1)))
def fX13_comesBack_b110 (c0 : Option Nat) (c1 : Int32) (s110 : Int32) : dnM ((Int32) ⊕ (Unit)) :=
  if 384 ≤ s110 then
  (dnP (.inr ()))
  else
  (dnB (dnGR c0 11 9) fun v13 =>
  dnB (dnGR c0 11 33) fun v14 =>
  dnB (dnAI v14 100 ((384 * c1) + s110)) fun v15 =>
  dnB (dnTI v13 100 s110 v15) fun _ =>
  dnB (dnGR c0 11 10) fun v16 =>
  dnB (dnGR c0 11 34) fun v17 =>
  dnB (dnAL v17 102 ((384 * c1) + s110)) fun v18 =>
  dnB (dnTL v16 102 s110 v18) fun _ =>
  dnB (dnGR c0 11 11) fun v19 =>
  dnB (dnGR c0 11 35) fun v20 =>
  dnB (dnAD v20 103 ((384 * c1) + s110)) fun v21 =>
  dnB (dnTD v19 103 s110 v21) fun _ =>
  dnP (.inl (s110 + 1)))
def fX13_comesBack (r0 : Option Nat) (p1 : Int32) : dnM Unit :=
  dnB (dnIt 1000 (fX13_comesBack_b2 r0 p1) 0) fun q2 =>
  dnB (dnIt 1000 (fX13_comesBack_b31 r0 p1) 0) fun q31 =>
  dnB (dnIt 1000 (fX13_comesBack_b62 r0 p1) 0) fun q62 =>
  dnB (dnIt 1000 (fX13_comesBack_b110 r0 p1) 0) fun q110 =>
  dnP ()
abbrev jX13_comesBack (w : dnWd) (x : dnX) (b : Nat) := dnD w x b (fun _ => True) cX13_comesBack RX13 3 rmX13_comesBack "comesBack" eU
set_option maxHeartbeats 4000000 in
set_option maxRecDepth 100000 in
theorem mX13_comesBack (w : dnWd) (x : dnX) (b : Nat) (r0 : Option Nat) (p1 : Int32) : dnMt w x b yX13_comesBack cX13_comesBack 3 none rmX13_comesBack eU [dnV b r0, .int p1] (fX13_comesBack r0 p1) := by
  have hlv : lv_args 0 [dnV b r0, .int p1] = [(0, dnV b r0), (1, .int p1)] := by cases r0 <;> rfl
  refine dn_mt (by decide +kernel) roU (by cases r0 <;> exact (Nat.le_of_ble_eq_true rfl)) ?_
  rw [hlv]
  refine dn_top ?_
  show jX13_comesBack w x b 0 0 0 _ [] (dnB _ dnP)
  unfold fX13_comesBack
  refine dn_iconst (pc := 0) (v := 0) dX13_comesBack_0 rfl ?_
  refine dn_istore_n (pc := 1) dX13_comesBack_1 (Nat.le_of_ble_eq_true rfl) (dnKp_nb 1 rfl rfl rfl (dnKp_of (lv2 := [(0, dnV b r0)]) [0] rfl rfl)) ?_
  refine dn_assoc ?_
  refine dn_lv [2, 1, 0] (lv2 := (fun s => [(0, dnV b r0), (1, .int p1), (2, .int s)]) 0) rfl ?_
  refine dn_loopE (pc := 2) (body := fX13_comesBack_b2 r0 p1) 29 (fun s => [(0, dnV b r0), (1, .int p1), (2, .int s)]) (fun q => [(0, dnV b r0), (1, .int p1)]) (fun s2 K2 E2 hK2 hE2 => ?_) (fun q2 => ?_) 1000 0
  · unfold fX13_comesBack_b2
    refine dn_iload_n (pc := 2) 2 dX13_comesBack_2 rfl ?_
    refine dn_iconst (pc := 3) (v := 4) dX13_comesBack_3 rfl ?_
    refine dn_icmp_ge (pc := 4) 29 dX13_comesBack_4 rfl (fun _ => ?_) (fun _ => ?_)
    · refine dn_leaf ?_
      exact dn_lv [0, 1] rfl (hE2 ())
    · refine dn_aload_n (pc := 7) r0 0 dX13_comesBack_7 rfl ?_
      refine dn_getR (pc := 8) r0 lRX13_17 dX13_comesBack_8 (fun v1 => ?_)
      refine dn_iload_n (pc := 11) 2 dX13_comesBack_11 rfl ?_
      refine dn_aload_n (pc := 12) r0 0 dX13_comesBack_12 rfl ?_
      refine dn_getR (pc := 13) r0 lRX13_73 dX13_comesBack_13 (fun v2 => ?_)
      refine dn_iconst (pc := 16) (v := 4) dX13_comesBack_16 rfl ?_
      refine dn_iload_n (pc := 17) 1 dX13_comesBack_17 rfl ?_
      refine dn_imul (pc := 18) dX13_comesBack_18 ?_
      refine dn_iload_n (pc := 19) 2 dX13_comesBack_19 rfl ?_
      refine dn_iadd (pc := 20) dX13_comesBack_20 ?_
      refine dn_iald (pc := 21) v2 dX13_comesBack_21 (fun v3 => ?_)
      refine dn_iast (pc := 22) v1 dX13_comesBack_22 ?_
      refine dn_iinc (pc := 23) (s2 + 1) 2 dX13_comesBack_23 rfl rfl (Nat.le_of_ble_eq_true rfl) (dnKp_nb 1 rfl rfl rfl (dnKp_of (lv2 := [(0, dnV b r0)]) [0] rfl rfl)) ?_
      refine dn_goto (pc := 26) 2 dX13_comesBack_26 rfl ?_
      refine dn_leaf ?_
      exact dn_lv [2, 1, 0] rfl (hK2 (s2 + 1))
  · refine dn_iconst (pc := 29) (v := 0) dX13_comesBack_29 rfl ?_
    refine dn_istore_n (pc := 30) dX13_comesBack_30 (Nat.le_of_ble_eq_true rfl) (dnKp_nb 1 rfl rfl rfl (dnKp_of (lv2 := [(0, dnV b r0)]) [0] rfl rfl)) ?_
    refine dn_assoc ?_
    refine dn_lv [2, 1, 0] (lv2 := (fun s => [(0, dnV b r0), (1, .int p1), (2, .int s)]) 0) rfl ?_
    refine dn_loopE (pc := 31) (body := fX13_comesBack_b31 r0 p1) 60 (fun s => [(0, dnV b r0), (1, .int p1), (2, .int s)]) (fun q => [(0, dnV b r0), (1, .int p1)]) (fun s31 K31 E31 hK31 hE31 => ?_) (fun q31 => ?_) 1000 0
    · unfold fX13_comesBack_b31
      refine dn_iload_n (pc := 31) 2 dX13_comesBack_31 rfl ?_
      refine dn_bipush (pc := 32) (v := 24) dX13_comesBack_32 rfl ?_
      refine dn_icmp_ge (pc := 34) 60 dX13_comesBack_34 rfl (fun _ => ?_) (fun _ => ?_)
      · refine dn_leaf ?_
        exact dn_lv [0, 1] rfl (hE31 ())
      · refine dn_aload_n (pc := 37) r0 0 dX13_comesBack_37 rfl ?_
        refine dn_getR (pc := 38) r0 lRX13_20 dX13_comesBack_38 (fun v4 => ?_)
        refine dn_iload_n (pc := 41) 2 dX13_comesBack_41 rfl ?_
        refine dn_aload_n (pc := 42) r0 0 dX13_comesBack_42 rfl ?_
        refine dn_getR (pc := 43) r0 lRX13_76 dX13_comesBack_43 (fun v5 => ?_)
        refine dn_bipush (pc := 46) (v := 24) dX13_comesBack_46 rfl ?_
        refine dn_iload_n (pc := 48) 1 dX13_comesBack_48 rfl ?_
        refine dn_imul (pc := 49) dX13_comesBack_49 ?_
        refine dn_iload_n (pc := 50) 2 dX13_comesBack_50 rfl ?_
        refine dn_iadd (pc := 51) dX13_comesBack_51 ?_
        refine dn_iald (pc := 52) v5 dX13_comesBack_52 (fun v6 => ?_)
        refine dn_iast (pc := 53) v4 dX13_comesBack_53 ?_
        refine dn_iinc (pc := 54) (s31 + 1) 2 dX13_comesBack_54 rfl rfl (Nat.le_of_ble_eq_true rfl) (dnKp_nb 1 rfl rfl rfl (dnKp_of (lv2 := [(0, dnV b r0)]) [0] rfl rfl)) ?_
        refine dn_goto (pc := 57) 31 dX13_comesBack_57 rfl ?_
        refine dn_leaf ?_
        exact dn_lv [2, 1, 0] rfl (hK31 (s31 + 1))
    · refine dn_iconst (pc := 60) (v := 0) dX13_comesBack_60 rfl ?_
      refine dn_istore_n (pc := 61) dX13_comesBack_61 (Nat.le_of_ble_eq_true rfl) (dnKp_nb 1 rfl rfl rfl (dnKp_of (lv2 := [(0, dnV b r0)]) [0] rfl rfl)) ?_
      refine dn_assoc ?_
      refine dn_lv [2, 1, 0] (lv2 := (fun s => [(0, dnV b r0), (1, .int p1), (2, .int s)]) 0) rfl ?_
      refine dn_loopE (pc := 62) (body := fX13_comesBack_b62 r0 p1) 108 (fun s => [(0, dnV b r0), (1, .int p1), (2, .int s)]) (fun q => [(0, dnV b r0), (1, .int p1)]) (fun s62 K62 E62 hK62 hE62 => ?_) (fun q62 => ?_) 1000 0
      · unfold fX13_comesBack_b62
        refine dn_iload_n (pc := 62) 2 dX13_comesBack_62 rfl ?_
        refine dn_bipush (pc := 63) (v := 32) dX13_comesBack_63 rfl ?_
        refine dn_icmp_ge (pc := 65) 108 dX13_comesBack_65 rfl (fun _ => ?_) (fun _ => ?_)
        · refine dn_leaf ?_
          exact dn_lv [0, 1] rfl (hE62 ())
        · refine dn_aload_n (pc := 68) r0 0 dX13_comesBack_68 rfl ?_
          refine dn_getR (pc := 69) r0 lRX13_23 dX13_comesBack_69 (fun v7 => ?_)
          refine dn_iload_n (pc := 72) 2 dX13_comesBack_72 rfl ?_
          refine dn_aload_n (pc := 73) r0 0 dX13_comesBack_73 rfl ?_
          refine dn_getR (pc := 74) r0 lRX13_79 dX13_comesBack_74 (fun v8 => ?_)
          refine dn_bipush (pc := 77) (v := 32) dX13_comesBack_77 rfl ?_
          refine dn_iload_n (pc := 79) 1 dX13_comesBack_79 rfl ?_
          refine dn_imul (pc := 80) dX13_comesBack_80 ?_
          refine dn_iload_n (pc := 81) 2 dX13_comesBack_81 rfl ?_
          refine dn_iadd (pc := 82) dX13_comesBack_82 ?_
          refine dn_iald (pc := 83) v8 dX13_comesBack_83 (fun v9 => ?_)
          refine dn_iast (pc := 84) v7 dX13_comesBack_84 ?_
          refine dn_aload_n (pc := 85) r0 0 dX13_comesBack_85 rfl ?_
          refine dn_getR (pc := 86) r0 lRX13_26 dX13_comesBack_86 (fun v10 => ?_)
          refine dn_iload_n (pc := 89) 2 dX13_comesBack_89 rfl ?_
          refine dn_aload_n (pc := 90) r0 0 dX13_comesBack_90 rfl ?_
          refine dn_getR (pc := 91) r0 lRX13_82 dX13_comesBack_91 (fun v11 => ?_)
          refine dn_bipush (pc := 94) (v := 32) dX13_comesBack_94 rfl ?_
          refine dn_iload_n (pc := 96) 1 dX13_comesBack_96 rfl ?_
          refine dn_imul (pc := 97) dX13_comesBack_97 ?_
          refine dn_iload_n (pc := 98) 2 dX13_comesBack_98 rfl ?_
          refine dn_iadd (pc := 99) dX13_comesBack_99 ?_
          refine dn_iald (pc := 100) v11 dX13_comesBack_100 (fun v12 => ?_)
          refine dn_iast (pc := 101) v10 dX13_comesBack_101 ?_
          refine dn_iinc (pc := 102) (s62 + 1) 2 dX13_comesBack_102 rfl rfl (Nat.le_of_ble_eq_true rfl) (dnKp_nb 1 rfl rfl rfl (dnKp_of (lv2 := [(0, dnV b r0)]) [0] rfl rfl)) ?_
          refine dn_goto (pc := 105) 62 dX13_comesBack_105 rfl ?_
          refine dn_leaf ?_
          exact dn_lv [2, 1, 0] rfl (hK62 (s62 + 1))
      · refine dn_iconst (pc := 108) (v := 0) dX13_comesBack_108 rfl ?_
        refine dn_istore_n (pc := 109) dX13_comesBack_109 (Nat.le_of_ble_eq_true rfl) (dnKp_nb 1 rfl rfl rfl (dnKp_of (lv2 := [(0, dnV b r0)]) [0] rfl rfl)) ?_
        refine dn_assoc ?_
        refine dn_lv [2, 1, 0] (lv2 := (fun s => [(0, dnV b r0), (1, .int p1), (2, .int s)]) 0) rfl ?_
        refine dn_loopE (pc := 110) (body := fX13_comesBack_b110 r0 p1) 177 (fun s => [(0, dnV b r0), (1, .int p1), (2, .int s)]) (fun q => []) (fun s110 K110 E110 hK110 hE110 => ?_) (fun q110 => ?_) 1000 0
        · unfold fX13_comesBack_b110
          refine dn_iload_n (pc := 110) 2 dX13_comesBack_110 rfl ?_
          refine dn_sipush (pc := 111) (v := 384) dX13_comesBack_111 rfl ?_
          refine dn_icmp_ge (pc := 114) 177 dX13_comesBack_114 rfl (fun _ => ?_) (fun _ => ?_)
          · refine dn_leaf ?_
            exact dn_lv [] rfl (hE110 ())
          · refine dn_aload_n (pc := 117) r0 0 dX13_comesBack_117 rfl ?_
            refine dn_getR (pc := 118) r0 lRX13_32 dX13_comesBack_118 (fun v13 => ?_)
            refine dn_iload_n (pc := 121) 2 dX13_comesBack_121 rfl ?_
            refine dn_aload_n (pc := 122) r0 0 dX13_comesBack_122 rfl ?_
            refine dn_getR (pc := 123) r0 lRX13_85 dX13_comesBack_123 (fun v14 => ?_)
            refine dn_sipush (pc := 126) (v := 384) dX13_comesBack_126 rfl ?_
            refine dn_iload_n (pc := 129) 1 dX13_comesBack_129 rfl ?_
            refine dn_imul (pc := 130) dX13_comesBack_130 ?_
            refine dn_iload_n (pc := 131) 2 dX13_comesBack_131 rfl ?_
            refine dn_iadd (pc := 132) dX13_comesBack_132 ?_
            refine dn_iald (pc := 133) v14 dX13_comesBack_133 (fun v15 => ?_)
            refine dn_iast (pc := 134) v13 dX13_comesBack_134 ?_
            refine dn_aload_n (pc := 135) r0 0 dX13_comesBack_135 rfl ?_
            refine dn_getR (pc := 136) r0 lRX13_35 dX13_comesBack_136 (fun v16 => ?_)
            refine dn_iload_n (pc := 139) 2 dX13_comesBack_139 rfl ?_
            refine dn_aload_n (pc := 140) r0 0 dX13_comesBack_140 rfl ?_
            refine dn_getR (pc := 141) r0 lRX13_88 dX13_comesBack_141 (fun v17 => ?_)
            refine dn_sipush (pc := 144) (v := 384) dX13_comesBack_144 rfl ?_
            refine dn_iload_n (pc := 147) 1 dX13_comesBack_147 rfl ?_
            refine dn_imul (pc := 148) dX13_comesBack_148 ?_
            refine dn_iload_n (pc := 149) 2 dX13_comesBack_149 rfl ?_
            refine dn_iadd (pc := 150) dX13_comesBack_150 ?_
            refine dn_lald (pc := 151) v17 dX13_comesBack_151 (fun v18 => ?_)
            refine dn_last (pc := 152) v16 dX13_comesBack_152 ?_
            refine dn_aload_n (pc := 153) r0 0 dX13_comesBack_153 rfl ?_
            refine dn_getR (pc := 154) r0 lRX13_39 dX13_comesBack_154 (fun v19 => ?_)
            refine dn_iload_n (pc := 157) 2 dX13_comesBack_157 rfl ?_
            refine dn_aload_n (pc := 158) r0 0 dX13_comesBack_158 rfl ?_
            refine dn_getR (pc := 159) r0 lRX13_91 dX13_comesBack_159 (fun v20 => ?_)
            refine dn_sipush (pc := 162) (v := 384) dX13_comesBack_162 rfl ?_
            refine dn_iload_n (pc := 165) 1 dX13_comesBack_165 rfl ?_
            refine dn_imul (pc := 166) dX13_comesBack_166 ?_
            refine dn_iload_n (pc := 167) 2 dX13_comesBack_167 rfl ?_
            refine dn_iadd (pc := 168) dX13_comesBack_168 ?_
            refine dn_dald (pc := 169) v20 dX13_comesBack_169 (fun v21 => ?_)
            refine dn_dast (pc := 170) v19 dX13_comesBack_170 ?_
            refine dn_iinc (pc := 171) (s110 + 1) 2 dX13_comesBack_171 rfl rfl (Nat.le_of_ble_eq_true rfl) (dnKp_nb 1 rfl rfl rfl (dnKp_of (lv2 := [(0, dnV b r0)]) [0] rfl rfl)) ?_
            refine dn_goto (pc := 174) 110 dX13_comesBack_174 rfl ?_
            refine dn_leaf ?_
            exact dn_lv [2, 1, 0] rfl (hK110 (s110 + 1))
        · exact dn_ret (Nat.le_of_ble_eq_true rfl) (Nat.le_of_ble_eq_true rfl) rfl dX13_comesBack_177
abbrev rmX13_gridMany : Room := { frames := 0, cells := 0, slots := 0, locals := 0 }
def fX13_gridMany_j24 (l0 : Option Nat) (l2 : Int32) (s0 : Int32) (s1 : Bool) : dnM ((Int32 × Int32) ⊕ (Int32)) :=
  dnP (.inl ((s0 + (dnZ s1)), (l2 + 1)))
def fX13_gridMany_b4 (c0 : Option Nat) (s4 : Int32 × Int32) : dnM ((Int32 × Int32) ⊕ (Int32)) :=
  if 4 ≤ s4.2 then
  (dnP (.inr s4.1))
  else
  (dnB (dnGR c0 11 4) fun v1 =>
  dnB (dnAI v1 100 s4.2) fun v2 =>
  if v2 < 0 then
  (fX13_gridMany_j24 c0 s4.2 s4.1 false)
  else
  (fX13_gridMany_j24 c0 s4.2 s4.1 true))
def fX13_gridMany (r0 : Option Nat) : dnM Int32 :=
  dnB (dnIt 1000 (fX13_gridMany_b4 r0) (0, 0)) fun q4 =>
  dnP q4
abbrev jX13_gridMany (w : dnWd) (x : dnX) (b : Nat) := dnD w x b (fun _ => True) cX13_gridMany RX13 3 rmX13_gridMany "gridMany" eI
set_option maxHeartbeats 4000000 in
set_option maxRecDepth 100000 in
theorem mX13_gridMany (w : dnWd) (x : dnX) (b : Nat) (r0 : Option Nat) : dnMt w x b yX13_gridMany cX13_gridMany 3 (some .int) rmX13_gridMany eI [dnV b r0] (fX13_gridMany r0) := by
  have hlv : lv_args 0 [dnV b r0] = [(0, dnV b r0)] := by cases r0 <;> rfl
  refine dn_mt (by decide +kernel) roI (by cases r0 <;> exact (Nat.le_of_ble_eq_true rfl)) ?_
  rw [hlv]
  refine dn_top ?_
  show jX13_gridMany w x b 0 0 0 _ [] (dnB _ dnP)
  unfold fX13_gridMany
  refine dn_iconst (pc := 0) (v := 0) dX13_gridMany_0 rfl ?_
  refine dn_istore_n (pc := 1) dX13_gridMany_1 (Nat.le_of_ble_eq_true rfl) (dnKp_nb 0 rfl (dn_cat b _) rfl (dnKp_of (lv2 := []) [] rfl rfl)) ?_
  refine dn_iconst (pc := 2) (v := 0) dX13_gridMany_2 rfl ?_
  refine dn_istore_n (pc := 3) dX13_gridMany_3 (Nat.le_of_ble_eq_true rfl) (dnKp_nb 0 rfl rfl rfl (dnKp_of (lv2 := [(0, dnV b r0)]) [1] rfl rfl)) ?_
  refine dn_assoc ?_
  refine dn_lv [2, 1, 0] (lv2 := (fun s => [(0, dnV b r0), (1, .int s.1), (2, .int s.2)]) (0, 0)) rfl ?_
  refine dn_loopE (pc := 4) (body := fX13_gridMany_b4 r0) 32 (fun s => [(0, dnV b r0), (1, .int s.1), (2, .int s.2)]) (fun q => [(1, .int q)]) (fun s4 K4 E4 hK4 hE4 => ?_) (fun q4 => ?_) 1000 (0, 0)
  · unfold fX13_gridMany_b4
    have hj24 : ∀ (l2 : Int32) (s0 : Int32) (s1 : Bool), jX13_gridMany w x b 24 0 0 [(0, dnV b r0), (2, .int l2)] [.int (dnZ s1), .int s0] (dnB (fX13_gridMany_j24 r0 l2 s0 s1) (dnKo K4 E4)) := by
      intro l2 s0 s1
      unfold fX13_gridMany_j24
      refine dn_iadd (pc := 24) dX13_gridMany_24 ?_
      refine dn_istore_n (pc := 25) dX13_gridMany_25 (Nat.le_of_ble_eq_true rfl) (dnKp_nb 0 rfl (dn_cat b _) rfl (dnKp_of (lv2 := [(2, .int l2)]) [1] rfl rfl)) ?_
      refine dn_iinc (pc := 26) (l2 + 1) 2 dX13_gridMany_26 rfl rfl (Nat.le_of_ble_eq_true rfl) (dnKp_nb 0 rfl rfl rfl (dnKp_of (lv2 := [(0, dnV b r0)]) [1] rfl rfl)) ?_
      refine dn_goto (pc := 29) 4 dX13_gridMany_29 rfl ?_
      refine dn_leaf ?_
      exact dn_lv [2, 1, 0] rfl (hK4 ((s0 + (dnZ s1)), (l2 + 1)))
    refine dn_iload_n (pc := 4) 2 dX13_gridMany_4 rfl ?_
    refine dn_iconst (pc := 5) (v := 4) dX13_gridMany_5 rfl ?_
    refine dn_icmp_ge (pc := 6) 32 dX13_gridMany_6 rfl (fun _ => ?_) (fun _ => ?_)
    · refine dn_leaf ?_
      exact dn_lv [1] rfl (hE4 s4.1)
    · refine dn_iload_n (pc := 9) 1 dX13_gridMany_9 rfl ?_
      refine dn_aload_n (pc := 10) r0 0 dX13_gridMany_10 rfl ?_
      refine dn_getR (pc := 11) r0 lRX13_17 dX13_gridMany_11 (fun v1 => ?_)
      refine dn_iload_n (pc := 14) 2 dX13_gridMany_14 rfl ?_
      refine dn_iald (pc := 15) v1 dX13_gridMany_15 (fun v2 => ?_)
      refine dn_if_lt (pc := 16) 23 dX13_gridMany_16 rfl (fun _ => ?_) (fun _ => ?_)
      · refine dn_iconst (pc := 23) (v := 0) dX13_gridMany_23 rfl ?_
        exact dn_lv [0, 2] rfl (hj24 s4.2 s4.1 false)
      · refine dn_iconst (pc := 19) (v := 1) dX13_gridMany_19 rfl ?_
        refine dn_goto (pc := 20) 24 dX13_gridMany_20 rfl ?_
        exact dn_lv [0, 2] rfl (hj24 s4.2 s4.1 true)
  · refine dn_iload_n (pc := 32) 0 dX13_gridMany_32 rfl ?_
    exact dn_ret (Nat.le_of_ble_eq_true rfl) (Nat.le_of_ble_eq_true rfl) rfl dX13_gridMany_33
abbrev rmX13_back : Room := { frames := 2, cells := 0, slots := 0, locals := 43 }
def fX13_back (r0 : Option Nat) (p1 : Int32) : dnM Int32 :=
  dnB (fX13_in p1 0 1) fun v1 =>
  if v1 = true then
  (dnB (dnGR r0 11 28) fun v2 =>
  dnB (dnAI v2 100 p1) fun v3 =>
  if ¬ v3 = 0 then
  (dnB (dnCv r0 11 (fX13_comesBack r0 p1)) fun _ =>
  dnB (dnCv r0 11 (fX13_gridMany r0)) fun v5 =>
  dnP v5)
  else
  (dnB (dnCv r0 11 (fX13_said r0 (-2))) fun v6 =>
  dnP v6))
  else
  (dnB (dnCv r0 11 (fX13_said r0 (-1))) fun v7 =>
  dnP v7)
abbrev jX13_back (w : dnWd) (x : dnX) (b : Nat) := dnD w x b (fun _ => True) cX13_back RX13 2 rmX13_back "back" eI
set_option maxHeartbeats 4000000 in
set_option maxRecDepth 100000 in
theorem mX13_back (w : dnWd) (x : dnX) (b : Nat) (r0 : Option Nat) (p1 : Int32) : dnMt w x b yX13_back cX13_back 2 (some .int) rmX13_back eI [dnV b r0, .int p1] (fX13_back r0 p1) := by
  have hlv : lv_args 0 [dnV b r0, .int p1] = [(0, dnV b r0), (1, .int p1)] := by cases r0 <;> rfl
  refine dn_mt (by decide +kernel) roI (by cases r0 <;> exact (Nat.le_of_ble_eq_true rfl)) ?_
  rw [hlv]
  refine dn_top ?_
  show jX13_back w x b 0 0 0 _ [] (dnB _ dnP)
  unfold fX13_back
  refine dn_iload_n (pc := 0) 1 dX13_back_0 rfl ?_
  refine dn_iconst (pc := 1) (v := 0) dX13_back_1 rfl ?_
  refine dn_iconst (pc := 2) (v := 1) dX13_back_2 rfl ?_
  refine dn_callS0Z (pc := 3) [.int p1, .int 0, .int 1]  kRX13_109 (mX13_in w x b p1 0 1) rfl rfl (Nat.le_of_ble_eq_true rfl) ⟨(Nat.le_of_ble_eq_true rfl), (Nat.le_of_ble_eq_true rfl)⟩ ⟨rfl, rfl, (Nat.le_of_ble_eq_true rfl), (Nat.le_of_ble_eq_true rfl)⟩ dX13_back_3 (fun v1 => ?_)
  refine dn_ifz_ne (pc := 6) 15 dX13_back_6 rfl (fun _ => ?_) (fun _ => ?_)
  · refine dn_aload_n (pc := 15) r0 0 dX13_back_15 rfl ?_
    refine dn_getR (pc := 16) r0 lRX13_70 dX13_back_16 (fun v2 => ?_)
    refine dn_iload_n (pc := 19) 1 dX13_back_19 rfl ?_
    refine dn_iald (pc := 20) v2 dX13_back_20 (fun v3 => ?_)
    refine dn_if_ne (pc := 21) 31 dX13_back_21 rfl (fun _ => ?_) (fun _ => ?_)
    · refine dn_aload_n (pc := 31) r0 0 dX13_back_31 rfl ?_
      refine dn_iload_n (pc := 32) 1 dX13_back_32 rfl ?_
      refine dn_callV0U (pc := 33) [.int p1] r0 kRX13_463 (mX13_comesBack w x b r0 p1) rfl rfl (Nat.le_of_ble_eq_true rfl) ⟨(Nat.le_of_ble_eq_true rfl), (Nat.le_of_ble_eq_true rfl)⟩ ⟨rfl, rfl, (Nat.le_of_ble_eq_true rfl), (Nat.le_of_ble_eq_true rfl)⟩ dX13_back_33 (fun _ => ?_)
      refine dn_aload_n (pc := 36) r0 0 dX13_back_36 rfl ?_
      refine dn_callV0I (pc := 37) [] r0 kRX13_459 (mX13_gridMany w x b r0) rfl rfl (Nat.le_of_ble_eq_true rfl) ⟨(Nat.le_of_ble_eq_true rfl), (Nat.le_of_ble_eq_true rfl)⟩ ⟨rfl, rfl, (Nat.le_of_ble_eq_true rfl), (Nat.le_of_ble_eq_true rfl)⟩ dX13_back_37 (fun v5 => ?_)
      exact dn_ret (Nat.le_of_ble_eq_true rfl) (Nat.le_of_ble_eq_true rfl) rfl dX13_back_40
    · refine dn_aload_n (pc := 24) r0 0 dX13_back_24 rfl ?_
      refine dn_bipush (pc := 25) (v := -2) dX13_back_25 rfl ?_
      refine dn_callV0I (pc := 27) [.int (-2)] r0 kRX13_137 (mX13_said w x b r0 (-2)) rfl rfl (Nat.le_of_ble_eq_true rfl) ⟨(Nat.le_of_ble_eq_true rfl), (Nat.le_of_ble_eq_true rfl)⟩ ⟨rfl, rfl, (Nat.le_of_ble_eq_true rfl), (Nat.le_of_ble_eq_true rfl)⟩ dX13_back_27 (fun v6 => ?_)
      exact dn_ret (Nat.le_of_ble_eq_true rfl) (Nat.le_of_ble_eq_true rfl) rfl dX13_back_30
  · refine dn_aload_n (pc := 9) r0 0 dX13_back_9 rfl ?_
    refine dn_iconst (pc := 10) (v := -1) dX13_back_10 rfl ?_
    refine dn_callV0I (pc := 11) [.int (-1)] r0 kRX13_137 (mX13_said w x b r0 (-1)) rfl rfl (Nat.le_of_ble_eq_true rfl) ⟨(Nat.le_of_ble_eq_true rfl), (Nat.le_of_ble_eq_true rfl)⟩ ⟨rfl, rfl, (Nat.le_of_ble_eq_true rfl), (Nat.le_of_ble_eq_true rfl)⟩ dX13_back_11 (fun v7 => ?_)
    exact dn_ret (Nat.le_of_ble_eq_true rfl) (Nat.le_of_ble_eq_true rfl) rfl dX13_back_14
abbrev rmX13_isRow : Room := { frames := 1, cells := 0, slots := 0, locals := 22 }
def fX13_isRow (r0 : Option Nat) (p1 : Int32) (p2 : Int32) : dnM Bool :=
  dnB (dnCv r0 11 (fX13_held r0 p1 p2)) fun v1 =>
  if v1 < 0 then
  (dnP false)
  else
  (dnP true)
abbrev jX13_isRow (w : dnWd) (x : dnX) (b : Nat) := dnD w x b (fun _ => True) cX13_isRow RX13 3 rmX13_isRow "isRow" eZ
set_option maxHeartbeats 4000000 in
set_option maxRecDepth 100000 in
theorem mX13_isRow (w : dnWd) (x : dnX) (b : Nat) (r0 : Option Nat) (p1 : Int32) (p2 : Int32) : dnMt w x b yX13_isRow cX13_isRow 3 (some .boolean) rmX13_isRow eZ [dnV b r0, .int p1, .int p2] (fX13_isRow r0 p1 p2) := by
  have hlv : lv_args 0 [dnV b r0, .int p1, .int p2] = [(0, dnV b r0), (1, .int p1), (2, .int p2)] := by cases r0 <;> rfl
  refine dn_mt (by decide +kernel) roZ (by cases r0 <;> exact (Nat.le_of_ble_eq_true rfl)) ?_
  rw [hlv]
  refine dn_top ?_
  show jX13_isRow w x b 0 0 0 _ [] (dnB _ dnP)
  unfold fX13_isRow
  refine dn_aload_n (pc := 0) r0 0 dX13_isRow_0 rfl ?_
  refine dn_iload_n (pc := 1) 1 dX13_isRow_1 rfl ?_
  refine dn_iload_n (pc := 2) 2 dX13_isRow_2 rfl ?_
  refine dn_callV0I (pc := 3) [.int p1, .int p2] r0 kRX13_128 (mX13_held w x b r0 p1 p2) rfl rfl (Nat.le_of_ble_eq_true rfl) ⟨(Nat.le_of_ble_eq_true rfl), (Nat.le_of_ble_eq_true rfl)⟩ ⟨rfl, rfl, (Nat.le_of_ble_eq_true rfl), (Nat.le_of_ble_eq_true rfl)⟩ dX13_isRow_3 (fun v1 => ?_)
  refine dn_if_lt (pc := 6) 13 dX13_isRow_6 rfl (fun _ => ?_) (fun _ => ?_)
  · refine dn_iconst (pc := 13) (v := 0) dX13_isRow_13 rfl ?_
    exact dn_ret (Nat.le_of_ble_eq_true rfl) (Nat.le_of_ble_eq_true rfl) rfl dX13_isRow_14
  · refine dn_iconst (pc := 9) (v := 1) dX13_isRow_9 rfl ?_
    refine dn_goto (pc := 10) 14 dX13_isRow_10 rfl ?_
    exact dn_ret (Nat.le_of_ble_eq_true rfl) (Nat.le_of_ble_eq_true rfl) rfl dX13_isRow_14
abbrev rmX13_hasCell : Room := { frames := 2, cells := 0, slots := 0, locals := 44 }
def fX13_hasCell (r0 : Option Nat) (p1 : Int32) (p2 : Int32) (p3 : Int32) : dnM Bool :=
  dnB (dnGR r0 11 4) fun v1 =>
  dnB (dnAI v1 100 p1) fun v2 =>
  dnB (fX13_in p2 0 (v2 - 1)) fun v3 =>
  if v3 = true then
  (dnB (dnCv r0 11 (fX13_isRow r0 p1 p2)) fun v4 =>
  if v4 = true then
  (dnB (dnGR r0 11 7) fun v5 =>
  dnB (dnCv r0 11 (fX13_held r0 p1 p2)) fun v6 =>
  dnB (dnAI v5 100 v6) fun v7 =>
  dnB (fX13_in p3 0 (v7 - 1)) fun v8 =>
  if v8 = true then
  (dnP true)
  else
  (dnP false))
  else
  (dnP false))
  else
  (dnP false)
abbrev jX13_hasCell (w : dnWd) (x : dnX) (b : Nat) := dnD w x b (fun _ => True) cX13_hasCell RX13 4 rmX13_hasCell "hasCell" eZ
set_option maxHeartbeats 4000000 in
set_option maxRecDepth 100000 in
theorem mX13_hasCell (w : dnWd) (x : dnX) (b : Nat) (r0 : Option Nat) (p1 : Int32) (p2 : Int32) (p3 : Int32) : dnMt w x b yX13_hasCell cX13_hasCell 4 (some .boolean) rmX13_hasCell eZ [dnV b r0, .int p1, .int p2, .int p3] (fX13_hasCell r0 p1 p2 p3) := by
  have hlv : lv_args 0 [dnV b r0, .int p1, .int p2, .int p3] = [(0, dnV b r0), (1, .int p1), (2, .int p2), (3, .int p3)] := by cases r0 <;> rfl
  refine dn_mt (by decide +kernel) roZ (by cases r0 <;> exact (Nat.le_of_ble_eq_true rfl)) ?_
  rw [hlv]
  refine dn_top ?_
  show jX13_hasCell w x b 0 0 0 _ [] (dnB _ dnP)
  unfold fX13_hasCell
  refine dn_iload_n (pc := 0) 2 dX13_hasCell_0 rfl ?_
  refine dn_iconst (pc := 1) (v := 0) dX13_hasCell_1 rfl ?_
  refine dn_aload_n (pc := 2) r0 0 dX13_hasCell_2 rfl ?_
  refine dn_getR (pc := 3) r0 lRX13_17 dX13_hasCell_3 (fun v1 => ?_)
  refine dn_iload_n (pc := 6) 1 dX13_hasCell_6 rfl ?_
  refine dn_iald (pc := 7) v1 dX13_hasCell_7 (fun v2 => ?_)
  refine dn_iconst (pc := 8) (v := 1) dX13_hasCell_8 rfl ?_
  refine dn_isub (pc := 9) dX13_hasCell_9 ?_
  refine dn_callS0Z (pc := 10) [.int p2, .int 0, .int (v2 - 1)]  kRX13_109 (mX13_in w x b p2 0 (v2 - 1)) rfl rfl (Nat.le_of_ble_eq_true rfl) ⟨(Nat.le_of_ble_eq_true rfl), (Nat.le_of_ble_eq_true rfl)⟩ ⟨rfl, rfl, (Nat.le_of_ble_eq_true rfl), (Nat.le_of_ble_eq_true rfl)⟩ dX13_hasCell_10 (fun v3 => ?_)
  refine dn_ifz_eq (pc := 13) 50 dX13_hasCell_13 rfl (fun _ => ?_) (fun _ => ?_)
  · refine dn_aload_n (pc := 16) r0 0 dX13_hasCell_16 rfl ?_
    refine dn_iload_n (pc := 17) 1 dX13_hasCell_17 rfl ?_
    refine dn_iload_n (pc := 18) 2 dX13_hasCell_18 rfl ?_
    refine dn_callV0Z (pc := 19) [.int p1, .int p2] r0 kRX13_336 (mX13_isRow w x b r0 p1 p2) rfl rfl (Nat.le_of_ble_eq_true rfl) ⟨(Nat.le_of_ble_eq_true rfl), (Nat.le_of_ble_eq_true rfl)⟩ ⟨rfl, rfl, (Nat.le_of_ble_eq_true rfl), (Nat.le_of_ble_eq_true rfl)⟩ dX13_hasCell_19 (fun v4 => ?_)
    refine dn_ifz_eq (pc := 22) 50 dX13_hasCell_22 rfl (fun _ => ?_) (fun _ => ?_)
    · refine dn_iload_n (pc := 25) 3 dX13_hasCell_25 rfl ?_
      refine dn_iconst (pc := 26) (v := 0) dX13_hasCell_26 rfl ?_
      refine dn_aload_n (pc := 27) r0 0 dX13_hasCell_27 rfl ?_
      refine dn_getR (pc := 28) r0 lRX13_26 dX13_hasCell_28 (fun v5 => ?_)
      refine dn_aload_n (pc := 31) r0 0 dX13_hasCell_31 rfl ?_
      refine dn_iload_n (pc := 32) 1 dX13_hasCell_32 rfl ?_
      refine dn_iload_n (pc := 33) 2 dX13_hasCell_33 rfl ?_
      refine dn_callV0I (pc := 34) [.int p1, .int p2] r0 kRX13_128 (mX13_held w x b r0 p1 p2) rfl rfl (Nat.le_of_ble_eq_true rfl) ⟨(Nat.le_of_ble_eq_true rfl), (Nat.le_of_ble_eq_true rfl)⟩ ⟨rfl, rfl, (Nat.le_of_ble_eq_true rfl), (Nat.le_of_ble_eq_true rfl)⟩ dX13_hasCell_34 (fun v6 => ?_)
      refine dn_iald (pc := 37) v5 dX13_hasCell_37 (fun v7 => ?_)
      refine dn_iconst (pc := 38) (v := 1) dX13_hasCell_38 rfl ?_
      refine dn_isub (pc := 39) dX13_hasCell_39 ?_
      refine dn_callS0Z (pc := 40) [.int p3, .int 0, .int (v7 - 1)]  kRX13_109 (mX13_in w x b p3 0 (v7 - 1)) rfl rfl (Nat.le_of_ble_eq_true rfl) ⟨(Nat.le_of_ble_eq_true rfl), (Nat.le_of_ble_eq_true rfl)⟩ ⟨rfl, rfl, (Nat.le_of_ble_eq_true rfl), (Nat.le_of_ble_eq_true rfl)⟩ dX13_hasCell_40 (fun v8 => ?_)
      refine dn_ifz_eq (pc := 43) 50 dX13_hasCell_43 rfl (fun _ => ?_) (fun _ => ?_)
      · refine dn_iconst (pc := 46) (v := 1) dX13_hasCell_46 rfl ?_
        refine dn_goto (pc := 47) 51 dX13_hasCell_47 rfl ?_
        exact dn_ret (Nat.le_of_ble_eq_true rfl) (Nat.le_of_ble_eq_true rfl) rfl dX13_hasCell_51
      · refine dn_iconst (pc := 50) (v := 0) dX13_hasCell_50 rfl ?_
        exact dn_ret (Nat.le_of_ble_eq_true rfl) (Nat.le_of_ble_eq_true rfl) rfl dX13_hasCell_51
    · refine dn_iconst (pc := 50) (v := 0) dX13_hasCell_50 rfl ?_
      exact dn_ret (Nat.le_of_ble_eq_true rfl) (Nat.le_of_ble_eq_true rfl) rfl dX13_hasCell_51
  · refine dn_iconst (pc := 50) (v := 0) dX13_hasCell_50 rfl ?_
    exact dn_ret (Nat.le_of_ble_eq_true rfl) (Nat.le_of_ble_eq_true rfl) rfl dX13_hasCell_51
abbrev rmX13_isBlock : Room := { frames := 3, cells := 0, slots := 0, locals := 67 }
def fX13_isBlock_b47 (c0 : Option Nat) (c1 : Int32) (c3 : Int32) (c4 : Int32) (c5 : Int32) (c6 : Int32) (s47 : Int32) : dnM ((Int32) ⊕ (Unit)) :=
  if c5 < s47 then
  (dnP (.inr ()))
  else
  (dnB (dnGL c0 11 27) fun v4 =>
  dnB (dnGR c0 11 10) fun v5 =>
  dnB (dnCv c0 11 (fX13_held c0 c1 c6)) fun v6 =>
  dnB (dnAL v5 102 ((12 * v6) + s47)) fun v7 =>
  dnB (dnPL c0 11 27 (v4 + v7)) fun _ =>
  dnP (.inl (s47 + 1)))
def fX13_isBlock_b8 (c0 : Option Nat) (c1 : Int32) (c3 : Int32) (c4 : Int32) (c5 : Int32) (s8 : Int32) : dnM ((Int32) ⊕ ((Unit) ⊕ Bool)) :=
  if c3 < s8 then
  (dnP (.inr (.inl ())))
  else
  (dnB (dnCv c0 11 (fX13_hasCell c0 c1 s8 c5)) fun v1 =>
  if v1 = true then
  (dnB (dnCv c0 11 (fX13_held c0 c1 s8)) fun v2 =>
  dnB (dnCv c0 11 (fX13_isReadable c0 v2 4)) fun v3 =>
  if v3 = true then
  (dnB (dnIt 1000 (fX13_isBlock_b47 c0 c1 c3 c4 c5 s8) c4) fun q47 =>
  dnP (.inl (s8 + 1)))
  else
  (dnP (.inr (.inr false))))
  else
  (dnP (.inr (.inr false))))
def fX13_isBlock (r0 : Option Nat) (p1 : Int32) (p2 : Int32) (p3 : Int32) (p4 : Int32) (p5 : Int32) : dnM Bool :=
  dnB (dnPL r0 11 27 0) fun _ =>
  dnB (dnIt 1000 (fX13_isBlock_b8 r0 p1 p3 p4 p5) p2) fun q_ => q_.elim (fun q8 => dnP true) (fun v_ => dnP v_)
abbrev jX13_isBlock (w : dnWd) (x : dnX) (b : Nat) := dnD w x b (fun _ => True) cX13_isBlock RX13 8 rmX13_isBlock "isBlock" eZ
set_option maxHeartbeats 4000000 in
set_option maxRecDepth 100000 in
theorem mX13_isBlock (w : dnWd) (x : dnX) (b : Nat) (r0 : Option Nat) (p1 : Int32) (p2 : Int32) (p3 : Int32) (p4 : Int32) (p5 : Int32) : dnMt w x b yX13_isBlock cX13_isBlock 8 (some .boolean) rmX13_isBlock eZ [dnV b r0, .int p1, .int p2, .int p3, .int p4, .int p5] (fX13_isBlock r0 p1 p2 p3 p4 p5) := by
  have hlv : lv_args 0 [dnV b r0, .int p1, .int p2, .int p3, .int p4, .int p5] = [(0, dnV b r0), (1, .int p1), (2, .int p2), (3, .int p3), (4, .int p4), (5, .int p5)] := by cases r0 <;> rfl
  refine dn_mt (by decide +kernel) roZ (by cases r0 <;> exact (Nat.le_of_ble_eq_true rfl)) ?_
  rw [hlv]
  refine dn_top ?_
  show jX13_isBlock w x b 0 0 0 _ [] (dnB _ dnP)
  unfold fX13_isBlock
  refine dn_aload_n (pc := 0) r0 0 dX13_isBlock_0 rfl ?_
  refine dn_lconst (pc := 1) (v := 0) dX13_isBlock_1 rfl ?_
  refine dn_putL (pc := 2) r0 lRX13_439 dX13_isBlock_2 ?_
  refine dn_iload_n (pc := 5) 2 dX13_isBlock_5 rfl ?_
  refine dn_istore (pc := 6) dX13_isBlock_6 (Nat.le_of_ble_eq_true rfl) (dnKp_nb 5 rfl rfl rfl (dnKp_of (lv2 := [(0, dnV b r0), (1, .int p1), (3, .int p3), (4, .int p4)]) [0, 1, 3, 4] rfl rfl)) ?_
  refine dn_assoc ?_
  refine dn_lv [2, 3, 4, 5, 1, 0] (lv2 := (fun s => [(0, dnV b r0), (1, .int p1), (3, .int p3), (4, .int p4), (5, .int p5), (6, .int s)]) p2) rfl ?_
  refine dn_loopR (pc := 8) (body := fX13_isBlock_b8 r0 p1 p3 p4 p5) 93 (fun s => [(0, dnV b r0), (1, .int p1), (3, .int p3), (4, .int p4), (5, .int p5), (6, .int s)]) (fun q => []) (fun s8 K8 E8 hK8 hE8 hR8 => ?_) (dn_rt (Nat.le_of_ble_eq_true rfl) (Nat.le_of_ble_eq_true rfl) (fun _ => rfl)) (fun q8 => ?_) 1000 p2
  · unfold fX13_isBlock_b8
    refine dn_iload (pc := 8) 5 dX13_isBlock_8 rfl ?_
    refine dn_iload_n (pc := 10) 2 dX13_isBlock_10 rfl ?_
    refine dn_icmp_gt (pc := 11) 93 dX13_isBlock_11 rfl (fun _ => ?_) (fun _ => ?_)
    · refine dn_leaf ?_
      exact dn_lv [] rfl (hE8 ())
    · refine dn_aload_n (pc := 14) r0 0 dX13_isBlock_14 rfl ?_
      refine dn_iload_n (pc := 15) 1 dX13_isBlock_15 rfl ?_
      refine dn_iload (pc := 16) 5 dX13_isBlock_16 rfl ?_
      refine dn_iload (pc := 18) 4 dX13_isBlock_18 rfl ?_
      refine dn_callV0Z (pc := 20) [.int p1, .int s8, .int p5] r0 kRX13_348 (mX13_hasCell w x b r0 p1 s8 p5) rfl rfl (Nat.le_of_ble_eq_true rfl) ⟨(Nat.le_of_ble_eq_true rfl), (Nat.le_of_ble_eq_true rfl)⟩ ⟨rfl, rfl, (Nat.le_of_ble_eq_true rfl), (Nat.le_of_ble_eq_true rfl)⟩ dX13_isBlock_20 (fun v1 => ?_)
      refine dn_ifz_eq (pc := 23) 41 dX13_isBlock_23 rfl (fun _ => ?_) (fun _ => ?_)
      · refine dn_aload_n (pc := 26) r0 0 dX13_isBlock_26 rfl ?_
        refine dn_aload_n (pc := 27) r0 0 dX13_isBlock_27 rfl ?_
        refine dn_iload_n (pc := 28) 1 dX13_isBlock_28 rfl ?_
        refine dn_iload (pc := 29) 5 dX13_isBlock_29 rfl ?_
        refine dn_callV0I (pc := 31) [.int p1, .int s8] r0 kRX13_128 (mX13_held w x b r0 p1 s8) rfl rfl (Nat.le_of_ble_eq_true rfl) ⟨(Nat.le_of_ble_eq_true rfl), (Nat.le_of_ble_eq_true rfl)⟩ ⟨rfl, rfl, (Nat.le_of_ble_eq_true rfl), (Nat.le_of_ble_eq_true rfl)⟩ dX13_isBlock_31 (fun v2 => ?_)
        refine dn_iconst (pc := 34) (v := 4) dX13_isBlock_34 rfl ?_
        refine dn_callV0Z (pc := 35) [.int v2, .int 4] r0 kRX13_233 (mX13_isReadable w x b r0 v2 4) rfl rfl (Nat.le_of_ble_eq_true rfl) ⟨(Nat.le_of_ble_eq_true rfl), (Nat.le_of_ble_eq_true rfl)⟩ ⟨rfl, rfl, (Nat.le_of_ble_eq_true rfl), (Nat.le_of_ble_eq_true rfl)⟩ dX13_isBlock_35 (fun v3 => ?_)
        refine dn_ifz_ne (pc := 38) 43 dX13_isBlock_38 rfl (fun _ => ?_) (fun _ => ?_)
        · refine dn_iload (pc := 43) 3 dX13_isBlock_43 rfl ?_
          refine dn_istore (pc := 45) dX13_isBlock_45 (Nat.le_of_ble_eq_true rfl) (dnKp_nb 5 rfl rfl rfl (dnKp_of (lv2 := [(0, dnV b r0), (1, .int p1), (3, .int p3), (4, .int p4), (5, .int p5)]) [0, 1, 2, 3, 4] rfl rfl)) ?_
          refine dn_assoc ?_
          refine dn_lv [2, 3, 4, 5, 6, 1, 0] (lv2 := (fun s => [(0, dnV b r0), (1, .int p1), (3, .int p3), (4, .int p4), (5, .int p5), (6, .int s8), (7, .int s)]) p4) rfl ?_
          refine dn_loopE (pc := 47) (body := fX13_isBlock_b47 r0 p1 p3 p4 p5 s8) 87 (fun s => [(0, dnV b r0), (1, .int p1), (3, .int p3), (4, .int p4), (5, .int p5), (6, .int s8), (7, .int s)]) (fun q => [(0, dnV b r0), (1, .int p1), (3, .int p3), (4, .int p4), (5, .int p5), (6, .int s8)]) (fun s47 K47 E47 hK47 hE47 => ?_) (fun q47 => ?_) 1000 p4
          · unfold fX13_isBlock_b47
            refine dn_iload (pc := 47) 6 dX13_isBlock_47 rfl ?_
            refine dn_iload (pc := 49) 4 dX13_isBlock_49 rfl ?_
            refine dn_icmp_gt (pc := 51) 87 dX13_isBlock_51 rfl (fun _ => ?_) (fun _ => ?_)
            · refine dn_leaf ?_
              exact dn_lv [0, 1, 2, 3, 4, 5] rfl (hE47 ())
            · refine dn_aload_n (pc := 54) r0 0 dX13_isBlock_54 rfl ?_
              refine dn_dup (pc := 55) dX13_isBlock_55 (dn_cat b _) ?_
              refine dn_getL (pc := 56) r0 lRX13_439 dX13_isBlock_56 (fun v4 => ?_)
              refine dn_aload_n (pc := 59) r0 0 dX13_isBlock_59 rfl ?_
              refine dn_getR (pc := 60) r0 lRX13_35 dX13_isBlock_60 (fun v5 => ?_)
              refine dn_bipush (pc := 63) (v := 12) dX13_isBlock_63 rfl ?_
              refine dn_aload_n (pc := 65) r0 0 dX13_isBlock_65 rfl ?_
              refine dn_iload_n (pc := 66) 1 dX13_isBlock_66 rfl ?_
              refine dn_iload (pc := 67) 5 dX13_isBlock_67 rfl ?_
              refine dn_callV0I (pc := 69) [.int p1, .int s8] r0 kRX13_128 (mX13_held w x b r0 p1 s8) rfl rfl (Nat.le_of_ble_eq_true rfl) ⟨(Nat.le_of_ble_eq_true rfl), (Nat.le_of_ble_eq_true rfl)⟩ ⟨rfl, rfl, (Nat.le_of_ble_eq_true rfl), (Nat.le_of_ble_eq_true rfl)⟩ dX13_isBlock_69 (fun v6 => ?_)
              refine dn_imul (pc := 72) dX13_isBlock_72 ?_
              refine dn_iload (pc := 73) 6 dX13_isBlock_73 rfl ?_
              refine dn_iadd (pc := 75) dX13_isBlock_75 ?_
              refine dn_lald (pc := 76) v5 dX13_isBlock_76 (fun v7 => ?_)
              refine dn_ladd (pc := 77) dX13_isBlock_77 ?_
              refine dn_putL (pc := 78) r0 lRX13_439 dX13_isBlock_78 ?_
              refine dn_iinc (pc := 81) (s47 + 1) 6 dX13_isBlock_81 rfl rfl (Nat.le_of_ble_eq_true rfl) (dnKp_nb 5 rfl rfl rfl (dnKp_of (lv2 := [(0, dnV b r0), (1, .int p1), (3, .int p3), (4, .int p4), (5, .int p5)]) [0, 1, 2, 3, 4] rfl rfl)) ?_
              refine dn_goto (pc := 84) 47 dX13_isBlock_84 rfl ?_
              refine dn_leaf ?_
              exact dn_lv [2, 3, 4, 5, 6, 1, 0] rfl (hK47 (s47 + 1))
          · refine dn_iinc (pc := 87) (s8 + 1) 5 dX13_isBlock_87 rfl rfl (Nat.le_of_ble_eq_true rfl) (dnKp_nb 4 rfl rfl rfl (dnKp_of (lv2 := [(0, dnV b r0), (1, .int p1), (3, .int p3), (4, .int p4)]) [0, 1, 2, 3] rfl rfl)) ?_
            refine dn_goto (pc := 90) 8 dX13_isBlock_90 rfl ?_
            refine dn_leaf ?_
            exact dn_lv [2, 3, 4, 5, 1, 0] rfl (hK8 (s8 + 1))
        · refine dn_iconst (pc := 41) (v := 0) dX13_isBlock_41 rfl ?_
          refine dn_leaf ?_
          exact hR8 false _ _ _ rfl dX13_isBlock_42
      · refine dn_iconst (pc := 41) (v := 0) dX13_isBlock_41 rfl ?_
        refine dn_leaf ?_
        exact hR8 false _ _ _ rfl dX13_isBlock_42
  · dsimp only [Sum.elim_inl]
    refine dn_iconst (pc := 93) (v := 1) dX13_isBlock_93 rfl ?_
    exact dn_ret (Nat.le_of_ble_eq_true rfl) (Nat.le_of_ble_eq_true rfl) rfl dX13_isBlock_94
abbrev rmX13_tells : Room := { frames := 0, cells := 0, slots := 0, locals := 0 }
def fX13_tells (r0 : Option Nat) (p1 : Int64) (p3 : Int32) : dnM Int32 :=
  dnB (dnPL r0 11 1 p1) fun _ =>
  dnP p3
abbrev jX13_tells (w : dnWd) (x : dnX) (b : Nat) := dnD w x b (fun _ => True) cX13_tells RX13 4 rmX13_tells "tells" eI
set_option maxHeartbeats 4000000 in
set_option maxRecDepth 100000 in
theorem mX13_tells (w : dnWd) (x : dnX) (b : Nat) (r0 : Option Nat) (p1 : Int64) (p3 : Int32) : dnMt w x b yX13_tells cX13_tells 4 (some .int) rmX13_tells eI [dnV b r0, .long p1, .int p3] (fX13_tells r0 p1 p3) := by
  have hlv : lv_args 0 [dnV b r0, .long p1, .int p3] = [(0, dnV b r0), (1, .long p1), (3, .int p3)] := by cases r0 <;> rfl
  refine dn_mt (by decide +kernel) roI (by cases r0 <;> exact (Nat.le_of_ble_eq_true rfl)) ?_
  rw [hlv]
  refine dn_top ?_
  show jX13_tells w x b 0 0 0 _ [] (dnB _ dnP)
  unfold fX13_tells
  refine dn_aload_n (pc := 0) r0 0 dX13_tells_0 rfl ?_
  refine dn_lload_n (pc := 1) 1 dX13_tells_1 rfl ?_
  refine dn_putL (pc := 2) r0 lRX13_116 dX13_tells_2 ?_
  refine dn_iload_n (pc := 5) 2 dX13_tells_5 rfl ?_
  exact dn_ret (Nat.le_of_ble_eq_true rfl) (Nat.le_of_ble_eq_true rfl) rfl dX13_tells_6
abbrev rmX13_blockAnswer : Room := { frames := 4, cells := 0, slots := 0, locals := 94 }
def fX13_blockAnswer_j135 (l0 : Option Nat) (l1 : Int32) (l2 : Int32) (l3 : Int64) (l5 : Int32) (l6 : Int32) (l7 : Int32) (l8 : Int32) : dnM ((Int32 × Int64 × Int32) ⊕ (Int32 × Int64)) :=
  dnP (.inl (l2, l3, (l8 + 1)))
def fX13_blockAnswer_j107 (l0 : Option Nat) (l1 : Int32) (l5 : Int32) (l6 : Int32) (l7 : Int32) (l8 : Int32) : dnM ((Int32 × Int64 × Int32) ⊕ (Int32 × Int64)) :=
  dnB (dnGL l0 11 27) fun v8 =>
  fX13_blockAnswer_j135 l0 l1 ((((1000000 * l5) + (10000 * l6)) + (100 * l7)) + l8) v8 l5 l6 l7 l8
def fX13_blockAnswer_b69 (c0 : Option Nat) (c1 : Int32) (c5 : Int32) (c6 : Int32) (c7 : Int32) (s69 : Int32 × Int64 × Int32) : dnM ((Int32 × Int64 × Int32) ⊕ (Int32 × Int64)) :=
  if 12 ≤ s69.2.2 then
  (dnP (.inr (s69.1, s69.2.1)))
  else
  (dnB (dnCv c0 11 (fX13_isBlock c0 c1 c5 c7 c6 s69.2.2)) fun v9 =>
  if v9 = true then
  (if s69.1 = (-9) then
  (fX13_blockAnswer_j107 c0 c1 c5 c6 c7 s69.2.2)
  else
  (dnB (dnGL c0 11 27) fun v10 =>
  if (lg_cmp v10 s69.2.1) ≤ 0 then
  (fX13_blockAnswer_j135 c0 c1 s69.1 s69.2.1 c5 c6 c7 s69.2.2)
  else
  (fX13_blockAnswer_j107 c0 c1 c5 c6 c7 s69.2.2)))
  else
  (fX13_blockAnswer_j135 c0 c1 s69.1 s69.2.1 c5 c6 c7 s69.2.2))
def fX13_blockAnswer_b54 (c0 : Option Nat) (c1 : Int32) (c5 : Int32) (c6 : Int32) (s54 : Int32 × Int64 × Int32) : dnM ((Int32 × Int64 × Int32) ⊕ (Int32 × Int64)) :=
  dnB (dnGR c0 11 4) fun v6 =>
  dnB (dnAI v6 100 c1) fun v7 =>
  if v7 ≤ s54.2.2 then
  (dnP (.inr (s54.1, s54.2.1)))
  else
  (dnB (dnIt 1000 (fX13_blockAnswer_b69 c0 c1 c5 c6 s54.2.2) (s54.1, s54.2.1, c6)) fun q69 =>
  dnP (.inl (q69.1, q69.2, (s54.2.2 + 1))))
def fX13_blockAnswer_b43 (c0 : Option Nat) (c1 : Int32) (c5 : Int32) (s43 : Int32 × Int64 × Int32) : dnM ((Int32 × Int64 × Int32) ⊕ (Int32 × Int64)) :=
  if 12 ≤ s43.2.2 then
  (dnP (.inr (s43.1, s43.2.1)))
  else
  (dnB (dnIt 1000 (fX13_blockAnswer_b54 c0 c1 c5 s43.2.2) (s43.1, s43.2.1, c5)) fun q54 =>
  dnP (.inl (q54.1, q54.2, (s43.2.2 + 1))))
def fX13_blockAnswer_b29 (c0 : Option Nat) (c1 : Int32) (s29 : Int32 × Int64 × Int32) : dnM ((Int32 × Int64 × Int32) ⊕ (Int32 × Int64)) :=
  dnB (dnGR c0 11 4) fun v4 =>
  dnB (dnAI v4 100 c1) fun v5 =>
  if v5 ≤ s29.2.2 then
  (dnP (.inr (s29.1, s29.2.1)))
  else
  (dnB (dnIt 1000 (fX13_blockAnswer_b43 c0 c1 s29.2.2) (s29.1, s29.2.1, 0)) fun q43 =>
  dnP (.inl (q43.1, q43.2, (s29.2.2 + 1))))
def fX13_blockAnswer (r0 : Option Nat) (p1 : Int32) : dnM Int32 :=
  dnB (fX13_isGrid p1) fun v1 =>
  if v1 = true then
  (dnB (dnGR r0 11 4) fun v2 =>
  dnB (dnAI v2 100 p1) fun v3 =>
  if 0 ≤ v3 then
  (dnB (dnIt 1000 (fX13_blockAnswer_b29 r0 p1) ((-9), 0, 0)) fun q29 =>
  if ¬ q29.1 = (-9) then
  (dnB (dnCv r0 11 (fX13_tells r0 q29.2 q29.1)) fun v11 =>
  dnP v11)
  else
  (dnP (-9)))
  else
  (dnP (-2)))
  else
  (dnP (-1))
abbrev jX13_blockAnswer (w : dnWd) (x : dnX) (b : Nat) := dnD w x b (fun _ => True) cX13_blockAnswer RX13 9 rmX13_blockAnswer "blockAnswer" eI
set_option maxHeartbeats 4000000 in
set_option maxRecDepth 100000 in
theorem mX13_blockAnswer (w : dnWd) (x : dnX) (b : Nat) (r0 : Option Nat) (p1 : Int32) : dnMt w x b yX13_blockAnswer cX13_blockAnswer 9 (some .int) rmX13_blockAnswer eI [dnV b r0, .int p1] (fX13_blockAnswer r0 p1) := by
  have hlv : lv_args 0 [dnV b r0, .int p1] = [(0, dnV b r0), (1, .int p1)] := by cases r0 <;> rfl
  refine dn_mt (by decide +kernel) roI (by cases r0 <;> exact (Nat.le_of_ble_eq_true rfl)) ?_
  rw [hlv]
  refine dn_top ?_
  show jX13_blockAnswer w x b 0 0 0 _ [] (dnB _ dnP)
  unfold fX13_blockAnswer
  refine dn_iload_n (pc := 0) 1 dX13_blockAnswer_0 rfl ?_
  refine dn_callS0Z (pc := 1) [.int p1]  kRX13_134 (mX13_isGrid w x b p1) rfl rfl (Nat.le_of_ble_eq_true rfl) ⟨(Nat.le_of_ble_eq_true rfl), (Nat.le_of_ble_eq_true rfl)⟩ ⟨rfl, rfl, (Nat.le_of_ble_eq_true rfl), (Nat.le_of_ble_eq_true rfl)⟩ dX13_blockAnswer_1 (fun v1 => ?_)
  refine dn_ifz_ne (pc := 4) 9 dX13_blockAnswer_4 rfl (fun _ => ?_) (fun _ => ?_)
  · refine dn_aload_n (pc := 9) r0 0 dX13_blockAnswer_9 rfl ?_
    refine dn_getR (pc := 10) r0 lRX13_17 dX13_blockAnswer_10 (fun v2 => ?_)
    refine dn_iload_n (pc := 13) 1 dX13_blockAnswer_13 rfl ?_
    refine dn_iald (pc := 14) v2 dX13_blockAnswer_14 (fun v3 => ?_)
    refine dn_if_ge (pc := 15) 21 dX13_blockAnswer_15 rfl (fun _ => ?_) (fun _ => ?_)
    · refine dn_bipush (pc := 21) (v := -9) dX13_blockAnswer_21 rfl ?_
      refine dn_istore_n (pc := 23) dX13_blockAnswer_23 (Nat.le_of_ble_eq_true rfl) (dnKp_nb 1 rfl rfl rfl (dnKp_of (lv2 := [(0, dnV b r0)]) [0] rfl rfl)) ?_
      refine dn_lconst (pc := 24) (v := 0) dX13_blockAnswer_24 rfl ?_
      refine dn_lstore_n (pc := 25) dX13_blockAnswer_25 (Nat.le_of_ble_eq_true rfl) (dnKp_nb 0 rfl rfl rfl (dnKp_of (lv2 := [(1, .int p1), (0, dnV b r0)]) [1, 2] rfl rfl)) ?_
      refine dn_iconst (pc := 26) (v := 0) dX13_blockAnswer_26 rfl ?_
      refine dn_istore (pc := 27) dX13_blockAnswer_27 (Nat.le_of_ble_eq_true rfl) (dnKp_of (lv2 := [(3, .long 0), (2, .int (-9)), (1, .int p1), (0, dnV b r0)]) [0, 1, 2, 3] rfl rfl) ?_
      refine dn_assoc ?_
      refine dn_lv [4, 3, 2, 1, 0] (lv2 := (fun s => [(0, dnV b r0), (1, .int p1), (2, .int s.1), (3, .long s.2.1), (5, .int s.2.2)]) ((-9), 0, 0)) rfl ?_
      refine dn_loopE (pc := 29) (body := fX13_blockAnswer_b29 r0 p1) 159 (fun s => [(0, dnV b r0), (1, .int p1), (2, .int s.1), (3, .long s.2.1), (5, .int s.2.2)]) (fun q => [(0, dnV b r0), (2, .int q.1), (3, .long q.2)]) (fun s29 K29 E29 hK29 hE29 => ?_) (fun q29 => ?_) 1000 ((-9), 0, 0)
      · unfold fX13_blockAnswer_b29
        refine dn_iload (pc := 29) 4 dX13_blockAnswer_29 rfl ?_
        refine dn_aload_n (pc := 31) r0 0 dX13_blockAnswer_31 rfl ?_
        refine dn_getR (pc := 32) r0 lRX13_17 dX13_blockAnswer_32 (fun v4 => ?_)
        refine dn_iload_n (pc := 35) 1 dX13_blockAnswer_35 rfl ?_
        refine dn_iald (pc := 36) v4 dX13_blockAnswer_36 (fun v5 => ?_)
        refine dn_icmp_ge (pc := 37) 159 dX13_blockAnswer_37 rfl (fun _ => ?_) (fun _ => ?_)
        · refine dn_leaf ?_
          exact dn_lv [0, 2, 3] rfl (hE29 (s29.1, s29.2.1))
        · refine dn_iconst (pc := 40) (v := 0) dX13_blockAnswer_40 rfl ?_
          refine dn_istore (pc := 41) dX13_blockAnswer_41 (Nat.le_of_ble_eq_true rfl) (dnKp_nb 4 rfl rfl rfl (dnKp_of (lv2 := [(0, dnV b r0), (1, .int p1), (2, .int s29.1), (3, .long s29.2.1)]) [0, 1, 2, 3] rfl rfl)) ?_
          refine dn_assoc ?_
          refine dn_lv [2, 3, 4, 5, 1, 0] (lv2 := (fun s => [(0, dnV b r0), (1, .int p1), (2, .int s.1), (3, .long s.2.1), (5, .int s29.2.2), (6, .int s.2.2)]) (s29.1, s29.2.1, 0)) rfl ?_
          refine dn_loopE (pc := 43) (body := fX13_blockAnswer_b43 r0 p1 s29.2.2) 153 (fun s => [(0, dnV b r0), (1, .int p1), (2, .int s.1), (3, .long s.2.1), (5, .int s29.2.2), (6, .int s.2.2)]) (fun q => [(0, dnV b r0), (1, .int p1), (2, .int q.1), (3, .long q.2), (5, .int s29.2.2)]) (fun s43 K43 E43 hK43 hE43 => ?_) (fun q43 => ?_) 1000 (s29.1, s29.2.1, 0)
          · unfold fX13_blockAnswer_b43
            refine dn_iload (pc := 43) 5 dX13_blockAnswer_43 rfl ?_
            refine dn_bipush (pc := 45) (v := 12) dX13_blockAnswer_45 rfl ?_
            refine dn_icmp_ge (pc := 47) 153 dX13_blockAnswer_47 rfl (fun _ => ?_) (fun _ => ?_)
            · refine dn_leaf ?_
              exact dn_lv [0, 1, 2, 3, 4] rfl (hE43 (s43.1, s43.2.1))
            · refine dn_iload (pc := 50) 4 dX13_blockAnswer_50 rfl ?_
              refine dn_istore (pc := 52) dX13_blockAnswer_52 (Nat.le_of_ble_eq_true rfl) (dnKp_nb 5 rfl rfl rfl (dnKp_of (lv2 := [(0, dnV b r0), (1, .int p1), (2, .int s43.1), (3, .long s43.2.1), (5, .int s29.2.2)]) [0, 1, 2, 3, 4] rfl rfl)) ?_
              refine dn_assoc ?_
              refine dn_lv [2, 3, 4, 5, 6, 1, 0] (lv2 := (fun s => [(0, dnV b r0), (1, .int p1), (2, .int s.1), (3, .long s.2.1), (5, .int s29.2.2), (6, .int s43.2.2), (7, .int s.2.2)]) (s43.1, s43.2.1, s29.2.2)) rfl ?_
              refine dn_loopE (pc := 54) (body := fX13_blockAnswer_b54 r0 p1 s29.2.2 s43.2.2) 147 (fun s => [(0, dnV b r0), (1, .int p1), (2, .int s.1), (3, .long s.2.1), (5, .int s29.2.2), (6, .int s43.2.2), (7, .int s.2.2)]) (fun q => [(0, dnV b r0), (1, .int p1), (2, .int q.1), (3, .long q.2), (5, .int s29.2.2), (6, .int s43.2.2)]) (fun s54 K54 E54 hK54 hE54 => ?_) (fun q54 => ?_) 1000 (s43.1, s43.2.1, s29.2.2)
              · unfold fX13_blockAnswer_b54
                refine dn_iload (pc := 54) 6 dX13_blockAnswer_54 rfl ?_
                refine dn_aload_n (pc := 56) r0 0 dX13_blockAnswer_56 rfl ?_
                refine dn_getR (pc := 57) r0 lRX13_17 dX13_blockAnswer_57 (fun v6 => ?_)
                refine dn_iload_n (pc := 60) 1 dX13_blockAnswer_60 rfl ?_
                refine dn_iald (pc := 61) v6 dX13_blockAnswer_61 (fun v7 => ?_)
                refine dn_icmp_ge (pc := 62) 147 dX13_blockAnswer_62 rfl (fun _ => ?_) (fun _ => ?_)
                · refine dn_leaf ?_
                  exact dn_lv [0, 1, 2, 3, 4, 5] rfl (hE54 (s54.1, s54.2.1))
                · refine dn_iload (pc := 65) 5 dX13_blockAnswer_65 rfl ?_
                  refine dn_istore (pc := 67) dX13_blockAnswer_67 (Nat.le_of_ble_eq_true rfl) (dnKp_nb 6 rfl rfl rfl (dnKp_of (lv2 := [(0, dnV b r0), (1, .int p1), (2, .int s54.1), (3, .long s54.2.1), (5, .int s29.2.2), (6, .int s43.2.2)]) [0, 1, 2, 3, 4, 5] rfl rfl)) ?_
                  refine dn_assoc ?_
                  refine dn_lv [2, 3, 4, 5, 6, 7, 1, 0] (lv2 := (fun s => [(0, dnV b r0), (1, .int p1), (2, .int s.1), (3, .long s.2.1), (5, .int s29.2.2), (6, .int s43.2.2), (7, .int s54.2.2), (8, .int s.2.2)]) (s54.1, s54.2.1, s43.2.2)) rfl ?_
                  refine dn_loopE (pc := 69) (body := fX13_blockAnswer_b69 r0 p1 s29.2.2 s43.2.2 s54.2.2) 141 (fun s => [(0, dnV b r0), (1, .int p1), (2, .int s.1), (3, .long s.2.1), (5, .int s29.2.2), (6, .int s43.2.2), (7, .int s54.2.2), (8, .int s.2.2)]) (fun q => [(0, dnV b r0), (1, .int p1), (2, .int q.1), (3, .long q.2), (5, .int s29.2.2), (6, .int s43.2.2), (7, .int s54.2.2)]) (fun s69 K69 E69 hK69 hE69 => ?_) (fun q69 => ?_) 1000 (s54.1, s54.2.1, s43.2.2)
                  · unfold fX13_blockAnswer_b69
                    have hj135 : ∀ (l2 : Int32) (l3 : Int64) (l8 : Int32), jX13_blockAnswer w x b 135 0 0 [(0, dnV b r0), (1, .int p1), (2, .int l2), (3, .long l3), (5, .int s29.2.2), (6, .int s43.2.2), (7, .int s54.2.2), (8, .int l8)] [] (dnB (fX13_blockAnswer_j135 r0 p1 l2 l3 s29.2.2 s43.2.2 s54.2.2 l8) (dnKo K69 E69)) := by
                      intro l2 l3 l8
                      unfold fX13_blockAnswer_j135
                      refine dn_iinc (pc := 135) (l8 + 1) 7 dX13_blockAnswer_135 rfl rfl (Nat.le_of_ble_eq_true rfl) (dnKp_nb 6 rfl rfl rfl (dnKp_of (lv2 := [(0, dnV b r0), (1, .int p1), (2, .int l2), (3, .long l3), (5, .int s29.2.2), (6, .int s43.2.2)]) [0, 1, 2, 3, 4, 5] rfl rfl)) ?_
                      refine dn_goto (pc := 138) 69 dX13_blockAnswer_138 rfl ?_
                      refine dn_leaf ?_
                      exact dn_lv [2, 3, 4, 5, 6, 7, 1, 0] rfl (hK69 (l2, l3, (l8 + 1)))
                    have hj107 : ∀ (l8 : Int32), jX13_blockAnswer w x b 107 0 0 [(0, dnV b r0), (1, .int p1), (5, .int s29.2.2), (6, .int s43.2.2), (7, .int s54.2.2), (8, .int l8)] [] (dnB (fX13_blockAnswer_j107 r0 p1 s29.2.2 s43.2.2 s54.2.2 l8) (dnKo K69 E69)) := by
                      intro l8
                      unfold fX13_blockAnswer_j107
                      refine dn_ldcw (pc := 107) kRX13_446 dX13_blockAnswer_107 ?_
                      refine dn_iload (pc := 110) 2 dX13_blockAnswer_110 rfl ?_
                      refine dn_imul (pc := 112) dX13_blockAnswer_112 ?_
                      refine dn_sipush (pc := 113) (v := 10000) dX13_blockAnswer_113 rfl ?_
                      refine dn_iload (pc := 116) 3 dX13_blockAnswer_116 rfl ?_
                      refine dn_imul (pc := 118) dX13_blockAnswer_118 ?_
                      refine dn_iadd (pc := 119) dX13_blockAnswer_119 ?_
                      refine dn_bipush (pc := 120) (v := 100) dX13_blockAnswer_120 rfl ?_
                      refine dn_iload (pc := 122) 4 dX13_blockAnswer_122 rfl ?_
                      refine dn_imul (pc := 124) dX13_blockAnswer_124 ?_
                      refine dn_iadd (pc := 125) dX13_blockAnswer_125 ?_
                      refine dn_iload (pc := 126) 5 dX13_blockAnswer_126 rfl ?_
                      refine dn_iadd (pc := 128) dX13_blockAnswer_128 ?_
                      refine dn_istore_n (pc := 129) dX13_blockAnswer_129 (Nat.le_of_ble_eq_true rfl) (dnKp_nb 1 rfl rfl rfl (dnKp_of (lv2 := [(0, dnV b r0), (5, .int s29.2.2), (6, .int s43.2.2), (7, .int s54.2.2), (8, .int l8)]) [0, 2, 3, 4, 5] rfl rfl)) ?_
                      refine dn_aload_n (pc := 130) r0 2 dX13_blockAnswer_130 rfl ?_
                      refine dn_getL (pc := 131) r0 lRX13_439 dX13_blockAnswer_131 (fun v8 => ?_)
                      refine dn_lstore_n (pc := 134) dX13_blockAnswer_134 (Nat.le_of_ble_eq_true rfl) (dnKp_nb 0 rfl rfl rfl (dnKp_of (lv2 := [(1, .int p1), (0, dnV b r0), (5, .int s29.2.2), (6, .int s43.2.2), (7, .int s54.2.2), (8, .int l8)]) [1, 2, 3, 4, 5, 6] rfl rfl)) ?_
                      exact dn_lv [3, 2, 1, 0, 4, 5, 6, 7] rfl (hj135 ((((1000000 * s29.2.2) + (10000 * s43.2.2)) + (100 * s54.2.2)) + l8) v8 l8)
                    refine dn_iload (pc := 69) 7 dX13_blockAnswer_69 rfl ?_
                    refine dn_bipush (pc := 71) (v := 12) dX13_blockAnswer_71 rfl ?_
                    refine dn_icmp_ge (pc := 73) 141 dX13_blockAnswer_73 rfl (fun _ => ?_) (fun _ => ?_)
                    · refine dn_leaf ?_
                      exact dn_lv [0, 1, 2, 3, 4, 5, 6] rfl (hE69 (s69.1, s69.2.1))
                    · refine dn_aload_n (pc := 76) r0 0 dX13_blockAnswer_76 rfl ?_
                      refine dn_iload_n (pc := 77) 1 dX13_blockAnswer_77 rfl ?_
                      refine dn_iload (pc := 78) 4 dX13_blockAnswer_78 rfl ?_
                      refine dn_iload (pc := 80) 6 dX13_blockAnswer_80 rfl ?_
                      refine dn_iload (pc := 82) 5 dX13_blockAnswer_82 rfl ?_
                      refine dn_iload (pc := 84) 7 dX13_blockAnswer_84 rfl ?_
                      refine dn_callV0Z (pc := 86) [.int p1, .int s29.2.2, .int s54.2.2, .int s43.2.2, .int s69.2.2] r0 kRX13_442 (mX13_isBlock w x b r0 p1 s29.2.2 s54.2.2 s43.2.2 s69.2.2) rfl rfl (Nat.le_of_ble_eq_true rfl) ⟨(Nat.le_of_ble_eq_true rfl), (Nat.le_of_ble_eq_true rfl)⟩ ⟨rfl, rfl, (Nat.le_of_ble_eq_true rfl), (Nat.le_of_ble_eq_true rfl)⟩ dX13_blockAnswer_86 (fun v9 => ?_)
                      refine dn_ifz_eq (pc := 89) 135 dX13_blockAnswer_89 rfl (fun _ => ?_) (fun _ => ?_)
                      · refine dn_iload_n (pc := 92) 2 dX13_blockAnswer_92 rfl ?_
                        refine dn_bipush (pc := 93) (v := -9) dX13_blockAnswer_93 rfl ?_
                        refine dn_icmp_eq (pc := 95) 107 dX13_blockAnswer_95 rfl (fun _ => ?_) (fun _ => ?_)
                        · exact dn_lv [0, 1, 4, 5, 6, 7] rfl (hj107 s69.2.2)
                        · refine dn_aload_n (pc := 98) r0 0 dX13_blockAnswer_98 rfl ?_
                          refine dn_getL (pc := 99) r0 lRX13_439 dX13_blockAnswer_99 (fun v10 => ?_)
                          refine dn_lload_n (pc := 102) 3 dX13_blockAnswer_102 rfl ?_
                          refine dn_lcmp (pc := 103) dX13_blockAnswer_103 ?_
                          refine dn_if_le (pc := 104) 135 dX13_blockAnswer_104 rfl (fun _ => ?_) (fun _ => ?_)
                          · exact dn_lv [0, 1, 2, 3, 4, 5, 6, 7] rfl (hj135 s69.1 s69.2.1 s69.2.2)
                          · exact dn_lv [0, 1, 4, 5, 6, 7] rfl (hj107 s69.2.2)
                      · exact dn_lv [0, 1, 2, 3, 4, 5, 6, 7] rfl (hj135 s69.1 s69.2.1 s69.2.2)
                  · refine dn_iinc (pc := 141) (s54.2.2 + 1) 6 dX13_blockAnswer_141 rfl rfl (Nat.le_of_ble_eq_true rfl) (dnKp_nb 5 rfl rfl rfl (dnKp_of (lv2 := [(0, dnV b r0), (1, .int p1), (2, .int q69.1), (3, .long q69.2), (5, .int s29.2.2)]) [0, 1, 2, 3, 4] rfl rfl)) ?_
                    refine dn_goto (pc := 144) 54 dX13_blockAnswer_144 rfl ?_
                    refine dn_leaf ?_
                    exact dn_lv [2, 3, 4, 5, 6, 1, 0] rfl (hK54 (q69.1, q69.2, (s54.2.2 + 1)))
              · refine dn_iinc (pc := 147) (s43.2.2 + 1) 5 dX13_blockAnswer_147 rfl rfl (Nat.le_of_ble_eq_true rfl) (dnKp_nb 4 rfl rfl rfl (dnKp_of (lv2 := [(0, dnV b r0), (1, .int p1), (2, .int q54.1), (3, .long q54.2)]) [0, 1, 2, 3] rfl rfl)) ?_
                refine dn_goto (pc := 150) 43 dX13_blockAnswer_150 rfl ?_
                refine dn_leaf ?_
                exact dn_lv [2, 3, 4, 5, 1, 0] rfl (hK43 (q54.1, q54.2, (s43.2.2 + 1)))
          · refine dn_iinc (pc := 153) (s29.2.2 + 1) 4 dX13_blockAnswer_153 rfl rfl (Nat.le_of_ble_eq_true rfl) (dnKp_of (lv2 := [(0, dnV b r0), (1, .int p1), (2, .int q43.1), (3, .long q43.2)]) [0, 1, 2, 3] rfl rfl) ?_
            refine dn_goto (pc := 156) 29 dX13_blockAnswer_156 rfl ?_
            refine dn_leaf ?_
            exact dn_lv [1, 2, 3, 4, 0] rfl (hK29 (q43.1, q43.2, (s29.2.2 + 1)))
      · refine dn_iload_n (pc := 159) 1 dX13_blockAnswer_159 rfl ?_
        refine dn_bipush (pc := 160) (v := -9) dX13_blockAnswer_160 rfl ?_
        refine dn_icmp_ne (pc := 162) 170 dX13_blockAnswer_162 rfl (fun _ => ?_) (fun _ => ?_)
        · refine dn_aload_n (pc := 170) r0 0 dX13_blockAnswer_170 rfl ?_
          refine dn_lload_n (pc := 171) 2 dX13_blockAnswer_171 rfl ?_
          refine dn_iload_n (pc := 172) 1 dX13_blockAnswer_172 rfl ?_
          refine dn_callV0I (pc := 173) [.long q29.2, .int q29.1] r0 kRX13_243 (mX13_tells w x b r0 q29.2 q29.1) rfl rfl (Nat.le_of_ble_eq_true rfl) ⟨(Nat.le_of_ble_eq_true rfl), (Nat.le_of_ble_eq_true rfl)⟩ ⟨rfl, rfl, (Nat.le_of_ble_eq_true rfl), (Nat.le_of_ble_eq_true rfl)⟩ dX13_blockAnswer_173 (fun v11 => ?_)
          exact dn_ret (Nat.le_of_ble_eq_true rfl) (Nat.le_of_ble_eq_true rfl) rfl dX13_blockAnswer_176
        · refine dn_bipush (pc := 165) (v := -9) dX13_blockAnswer_165 rfl ?_
          refine dn_goto (pc := 167) 176 dX13_blockAnswer_167 rfl ?_
          exact dn_ret (Nat.le_of_ble_eq_true rfl) (Nat.le_of_ble_eq_true rfl) rfl dX13_blockAnswer_176
    · refine dn_bipush (pc := 18) (v := -2) dX13_blockAnswer_18 rfl ?_
      exact dn_ret (Nat.le_of_ble_eq_true rfl) (Nat.le_of_ble_eq_true rfl) rfl dX13_blockAnswer_20
  · refine dn_iconst (pc := 7) (v := -1) dX13_blockAnswer_7 rfl ?_
    exact dn_ret (Nat.le_of_ble_eq_true rfl) (Nat.le_of_ble_eq_true rfl) rfl dX13_blockAnswer_8
abbrev rmX13_block : Room := { frames := 5, cells := 0, slots := 0, locals := 122 }
def fX13_block (r0 : Option Nat) (p1 : Int32) : dnM Int32 :=
  dnB (dnCv r0 11 (fX13_blockAnswer r0 p1)) fun v1 =>
  dnB (dnCv r0 11 (fX13_said r0 v1)) fun v2 =>
  dnP v2
abbrev jX13_block (w : dnWd) (x : dnX) (b : Nat) := dnD w x b (fun _ => True) cX13_block RX13 2 rmX13_block "block" eI
set_option maxHeartbeats 4000000 in
set_option maxRecDepth 100000 in
theorem mX13_block (w : dnWd) (x : dnX) (b : Nat) (r0 : Option Nat) (p1 : Int32) : dnMt w x b yX13_block cX13_block 2 (some .int) rmX13_block eI [dnV b r0, .int p1] (fX13_block r0 p1) := by
  have hlv : lv_args 0 [dnV b r0, .int p1] = [(0, dnV b r0), (1, .int p1)] := by cases r0 <;> rfl
  refine dn_mt (by decide +kernel) roI (by cases r0 <;> exact (Nat.le_of_ble_eq_true rfl)) ?_
  rw [hlv]
  refine dn_top ?_
  show jX13_block w x b 0 0 0 _ [] (dnB _ dnP)
  unfold fX13_block
  refine dn_aload_n (pc := 0) r0 0 dX13_block_0 rfl ?_
  refine dn_aload_n (pc := 1) r0 0 dX13_block_1 rfl ?_
  refine dn_iload_n (pc := 2) 1 dX13_block_2 rfl ?_
  refine dn_callV0I (pc := 3) [.int p1] r0 kRX13_447 (mX13_blockAnswer w x b r0 p1) rfl rfl (Nat.le_of_ble_eq_true rfl) ⟨(Nat.le_of_ble_eq_true rfl), (Nat.le_of_ble_eq_true rfl)⟩ ⟨rfl, rfl, (Nat.le_of_ble_eq_true rfl), (Nat.le_of_ble_eq_true rfl)⟩ dX13_block_3 (fun v1 => ?_)
  refine dn_callV0I (pc := 6) [.int v1] r0 kRX13_137 (mX13_said w x b r0 v1) rfl rfl (Nat.le_of_ble_eq_true rfl) ⟨(Nat.le_of_ble_eq_true rfl), (Nat.le_of_ble_eq_true rfl)⟩ ⟨rfl, rfl, (Nat.le_of_ble_eq_true rfl), (Nat.le_of_ble_eq_true rfl)⟩ dX13_block_6 (fun v2 => ?_)
  exact dn_ret (Nat.le_of_ble_eq_true rfl) (Nat.le_of_ble_eq_true rfl) rfl dX13_block_9
abbrev rmX13_puts : Room := { frames := 2, cells := 0, slots := 0, locals := 43 }
def fX13_puts_j40 (l0 : Option Nat) (l1 : Int32) (l2 : Int32) : dnM Bool :=
  dnB (dnCv l0 11 (fX13_lays l0 l1 l2)) fun _ =>
  dnP true
def fX13_puts (r0 : Option Nat) (p1 : Int32) (p2 : Int32) : dnM Bool :=
  dnB (dnGR r0 11 6) fun v2 =>
  dnB (dnAI v2 100 p1) fun v3 =>
  dnB (dnGI r0 11 12) fun v4 =>
  dnB (fX13_takes v3 v4) fun v5 =>
  if v5 = true then
  (dnB (dnGR r0 11 6) fun v6 =>
  dnB (dnAI v6 100 p1) fun v7 =>
  dnB (fX13_isPlain v7) fun v8 =>
  if v8 = true then
  (dnB (dnGR r0 11 6) fun v9 =>
  dnB (dnAI v9 100 p1) fun v10 =>
  dnB (dnCv r0 11 (fX13_widens r0 v10)) fun _ =>
  fX13_puts_j40 r0 p1 p2)
  else
  (fX13_puts_j40 r0 p1 p2))
  else
  (dnP false)
abbrev jX13_puts (w : dnWd) (x : dnX) (b : Nat) := dnD w x b (fun _ => True) cX13_puts RX13 3 rmX13_puts "puts" eZ
set_option maxHeartbeats 4000000 in
set_option maxRecDepth 100000 in
theorem mX13_puts (w : dnWd) (x : dnX) (b : Nat) (r0 : Option Nat) (p1 : Int32) (p2 : Int32) : dnMt w x b yX13_puts cX13_puts 3 (some .boolean) rmX13_puts eZ [dnV b r0, .int p1, .int p2] (fX13_puts r0 p1 p2) := by
  have hlv : lv_args 0 [dnV b r0, .int p1, .int p2] = [(0, dnV b r0), (1, .int p1), (2, .int p2)] := by cases r0 <;> rfl
  refine dn_mt (by decide +kernel) roZ (by cases r0 <;> exact (Nat.le_of_ble_eq_true rfl)) ?_
  rw [hlv]
  refine dn_top ?_
  show jX13_puts w x b 0 0 0 _ [] (dnB _ dnP)
  unfold fX13_puts
  have hj40 : ∀ (l0 : Option Nat) (l1 : Int32) (l2 : Int32), jX13_puts w x b 40 0 0 [(0, dnV b l0), (1, .int l1), (2, .int l2)] [] (dnB (fX13_puts_j40 l0 l1 l2) dnP) := by
    intro l0 l1 l2
    unfold fX13_puts_j40
    refine dn_aload_n (pc := 40) l0 0 dX13_puts_40 rfl ?_
    refine dn_iload_n (pc := 41) 1 dX13_puts_41 rfl ?_
    refine dn_iload_n (pc := 42) 2 dX13_puts_42 rfl ?_
    refine dn_callV0U (pc := 43) [.int l1, .int l2] l0 kRX13_216 (mX13_lays w x b l0 l1 l2) rfl rfl (Nat.le_of_ble_eq_true rfl) ⟨(Nat.le_of_ble_eq_true rfl), (Nat.le_of_ble_eq_true rfl)⟩ ⟨rfl, rfl, (Nat.le_of_ble_eq_true rfl), (Nat.le_of_ble_eq_true rfl)⟩ dX13_puts_43 (fun _ => ?_)
    refine dn_iconst (pc := 46) (v := 1) dX13_puts_46 rfl ?_
    exact dn_ret (Nat.le_of_ble_eq_true rfl) (Nat.le_of_ble_eq_true rfl) rfl dX13_puts_47
  refine dn_aload_n (pc := 0) r0 0 dX13_puts_0 rfl ?_
  refine dn_getR (pc := 1) r0 lRX13_23 dX13_puts_1 (fun v2 => ?_)
  refine dn_iload_n (pc := 4) 1 dX13_puts_4 rfl ?_
  refine dn_iald (pc := 5) v2 dX13_puts_5 (fun v3 => ?_)
  refine dn_aload_n (pc := 6) r0 0 dX13_puts_6 rfl ?_
  refine dn_getI (pc := 7) r0 lRX13_190 dX13_puts_7 (fun v4 => ?_)
  refine dn_callS0Z (pc := 10) [.int v3, .int v4]  kRX13_205 (mX13_takes w x b v3 v4) rfl rfl (Nat.le_of_ble_eq_true rfl) ⟨(Nat.le_of_ble_eq_true rfl), (Nat.le_of_ble_eq_true rfl)⟩ ⟨rfl, rfl, (Nat.le_of_ble_eq_true rfl), (Nat.le_of_ble_eq_true rfl)⟩ dX13_puts_10 (fun v5 => ?_)
  refine dn_ifz_ne (pc := 13) 18 dX13_puts_13 rfl (fun _ => ?_) (fun _ => ?_)
  · refine dn_aload_n (pc := 18) r0 0 dX13_puts_18 rfl ?_
    refine dn_getR (pc := 19) r0 lRX13_23 dX13_puts_19 (fun v6 => ?_)
    refine dn_iload_n (pc := 22) 1 dX13_puts_22 rfl ?_
    refine dn_iald (pc := 23) v6 dX13_puts_23 (fun v7 => ?_)
    refine dn_callS0Z (pc := 24) [.int v7]  kRX13_209 (mX13_isPlain w x b v7) rfl rfl (Nat.le_of_ble_eq_true rfl) ⟨(Nat.le_of_ble_eq_true rfl), (Nat.le_of_ble_eq_true rfl)⟩ ⟨rfl, rfl, (Nat.le_of_ble_eq_true rfl), (Nat.le_of_ble_eq_true rfl)⟩ dX13_puts_24 (fun v8 => ?_)
    refine dn_ifz_eq (pc := 27) 40 dX13_puts_27 rfl (fun _ => ?_) (fun _ => ?_)
    · refine dn_aload_n (pc := 30) r0 0 dX13_puts_30 rfl ?_
      refine dn_aload_n (pc := 31) r0 0 dX13_puts_31 rfl ?_
      refine dn_getR (pc := 32) r0 lRX13_23 dX13_puts_32 (fun v9 => ?_)
      refine dn_iload_n (pc := 35) 1 dX13_puts_35 rfl ?_
      refine dn_iald (pc := 36) v9 dX13_puts_36 (fun v10 => ?_)
      refine dn_callV0U (pc := 37) [.int v10] r0 kRX13_212 (mX13_widens w x b r0 v10) rfl rfl (Nat.le_of_ble_eq_true rfl) ⟨(Nat.le_of_ble_eq_true rfl), (Nat.le_of_ble_eq_true rfl)⟩ ⟨rfl, rfl, (Nat.le_of_ble_eq_true rfl), (Nat.le_of_ble_eq_true rfl)⟩ dX13_puts_37 (fun _ => ?_)
      exact dn_lv [0, 1, 2] rfl (hj40 r0 p1 p2)
    · exact dn_lv [0, 1, 2] rfl (hj40 r0 p1 p2)
  · refine dn_iconst (pc := 16) (v := 0) dX13_puts_16 rfl ?_
    exact dn_ret (Nat.le_of_ble_eq_true rfl) (Nat.le_of_ble_eq_true rfl) rfl dX13_puts_17
abbrev rmX13_copies : Room := { frames := 3, cells := 0, slots := 0, locals := 65 }
def fX13_copies (r0 : Option Nat) (p1 : Int32) (p2 : Int32) (p3 : Int32) (p4 : Int32) : dnM Unit :=
  dnB (dnCv r0 11 (fX13_loads r0 p1 p2)) fun _ =>
  dnB (dnCv r0 11 (fX13_puts r0 p3 p4)) fun v2 =>
  dnP ()
abbrev jX13_copies (w : dnWd) (x : dnX) (b : Nat) := dnD w x b (fun _ => True) cX13_copies RX13 5 rmX13_copies "copies" eU
set_option maxHeartbeats 4000000 in
set_option maxRecDepth 100000 in
theorem mX13_copies (w : dnWd) (x : dnX) (b : Nat) (r0 : Option Nat) (p1 : Int32) (p2 : Int32) (p3 : Int32) (p4 : Int32) : dnMt w x b yX13_copies cX13_copies 5 none rmX13_copies eU [dnV b r0, .int p1, .int p2, .int p3, .int p4] (fX13_copies r0 p1 p2 p3 p4) := by
  have hlv : lv_args 0 [dnV b r0, .int p1, .int p2, .int p3, .int p4] = [(0, dnV b r0), (1, .int p1), (2, .int p2), (3, .int p3), (4, .int p4)] := by cases r0 <;> rfl
  refine dn_mt (by decide +kernel) roU (by cases r0 <;> exact (Nat.le_of_ble_eq_true rfl)) ?_
  rw [hlv]
  refine dn_top ?_
  show jX13_copies w x b 0 0 0 _ [] (dnB _ dnP)
  unfold fX13_copies
  refine dn_aload_n (pc := 0) r0 0 dX13_copies_0 rfl ?_
  refine dn_iload_n (pc := 1) 1 dX13_copies_1 rfl ?_
  refine dn_iload_n (pc := 2) 2 dX13_copies_2 rfl ?_
  refine dn_callV0U (pc := 3) [.int p1, .int p2] r0 kRX13_236 (mX13_loads w x b r0 p1 p2) rfl rfl (Nat.le_of_ble_eq_true rfl) ⟨(Nat.le_of_ble_eq_true rfl), (Nat.le_of_ble_eq_true rfl)⟩ ⟨rfl, rfl, (Nat.le_of_ble_eq_true rfl), (Nat.le_of_ble_eq_true rfl)⟩ dX13_copies_3 (fun _ => ?_)
  refine dn_aload_n (pc := 6) r0 0 dX13_copies_6 rfl ?_
  refine dn_iload_n (pc := 7) 3 dX13_copies_7 rfl ?_
  refine dn_iload (pc := 8) 4 dX13_copies_8 rfl ?_
  refine dn_callV0Z (pc := 10) [.int p3, .int p4] r0 kRX13_254 (mX13_puts w x b r0 p3 p4) rfl rfl (Nat.le_of_ble_eq_true rfl) ⟨(Nat.le_of_ble_eq_true rfl), (Nat.le_of_ble_eq_true rfl)⟩ ⟨rfl, rfl, (Nat.le_of_ble_eq_true rfl), (Nat.le_of_ble_eq_true rfl)⟩ dX13_copies_10 (fun v2 => ?_)
  refine dn_pop (pc := 13) dX13_copies_13 rfl ?_
  exact dn_ret (Nat.le_of_ble_eq_true rfl) (Nat.le_of_ble_eq_true rfl) rfl dX13_copies_14
abbrev rmX13_isKind : Room := { frames := 1, cells := 0, slots := 0, locals := 22 }
def fX13_isKind (p0 : Int32) : dnM Bool :=
  dnB (fX13_in p0 0 11) fun v1 =>
  dnP v1
abbrev jX13_isKind (w : dnWd) (x : dnX) (b : Nat) := dnD w x b (fun _ => True) cX13_isKind RX13 1 rmX13_isKind "isKind" eZ
set_option maxHeartbeats 4000000 in
set_option maxRecDepth 100000 in
theorem mX13_isKind (w : dnWd) (x : dnX) (b : Nat) (p0 : Int32) : dnMt w x b yX13_isKind cX13_isKind 1 (some .boolean) rmX13_isKind eZ [.int p0] (fX13_isKind p0) := by
  have hlv : lv_args 0 [.int p0] = [(0, .int p0)] := by rfl
  refine dn_mt (by decide +kernel) roZ (by exact (Nat.le_of_ble_eq_true rfl)) ?_
  rw [hlv]
  refine dn_top ?_
  show jX13_isKind w x b 0 0 0 _ [] (dnB _ dnP)
  unfold fX13_isKind
  refine dn_iload_n (pc := 0) 0 dX13_isKind_0 rfl ?_
  refine dn_iconst (pc := 1) (v := 0) dX13_isKind_1 rfl ?_
  refine dn_bipush (pc := 2) (v := 11) dX13_isKind_2 rfl ?_
  refine dn_callS0Z (pc := 4) [.int p0, .int 0, .int 11]  kRX13_109 (mX13_in w x b p0 0 11) rfl rfl (Nat.le_of_ble_eq_true rfl) ⟨(Nat.le_of_ble_eq_true rfl), (Nat.le_of_ble_eq_true rfl)⟩ ⟨rfl, rfl, (Nat.le_of_ble_eq_true rfl), (Nat.le_of_ble_eq_true rfl)⟩ dX13_isKind_4 (fun v1 => ?_)
  exact dn_ret (Nat.le_of_ble_eq_true rfl) (Nat.le_of_ble_eq_true rfl) rfl dX13_isKind_7
abbrev rmX13_castDeed : Room := { frames := 4, cells := 0, slots := 0, locals := 89 }
def fX13_castDeed_b43 (c0 : Option Nat) (c1 : Int32) (c2 : Int32) (c3 : Int32) (c5 : Int32) (s43 : Int32) : dnM ((Int32) ⊕ ((Unit) ⊕ Int32)) :=
  dnB (dnGR c0 11 7) fun v5 =>
  dnB (dnAI v5 100 c5) fun v6 =>
  if v6 ≤ s43 then
  (dnP (.inr (.inl ())))
  else
  (dnB (dnGR c0 11 9) fun v7 =>
  dnB (dnAI v7 100 ((12 * c5) + s43)) fun v8 =>
  dnB (fX13_takes c3 v8) fun v9 =>
  if v9 = true then
  (dnP (.inl (s43 + 1)))
  else
  (dnB (dnPI c0 11 2 s43) fun _ =>
  dnP (.inr (.inr (-7)))))
def fX13_castDeed_b107 (c0 : Option Nat) (c1 : Int32) (c2 : Int32) (c5 : Int32) (c6 : Int32) (s107 : Int32) : dnM ((Int32) ⊕ (Unit)) :=
  dnB (dnGR c0 11 7) fun v13 =>
  dnB (dnAI v13 100 c5) fun v14 =>
  if v14 ≤ s107 then
  (dnP (.inr ()))
  else
  (dnB (dnCv c0 11 (fX13_copies c0 c5 s107 c6 s107)) fun _ =>
  dnP (.inl (s107 + 1)))
def fX13_castDeed (r0 : Option Nat) (p1 : Int32) (p2 : Int32) (p3 : Int32) : dnM Int32 :=
  dnB (fX13_isGrid p1) fun v1 =>
  if v1 = true then
  (dnB (fX13_isKind p3) fun v2 =>
  if v2 = true then
  (dnB (dnCv r0 11 (fX13_rowFault r0 p1 p2)) fun v3 =>
  if v3 = 0 then
  (dnB (dnCv r0 11 (fX13_held r0 p1 p2)) fun v4 =>
  dnB (dnIt 1000 (fX13_castDeed_b43 r0 p1 p2 p3 v4) 0) fun q_ => q_.elim (fun q43 => dnB (dnGR r0 11 7) fun v10 =>
  dnB (dnAI v10 100 v4) fun v11 =>
  dnB (dnCv r0 11 (fX13_newRow r0 p3 v11)) fun v12 =>
  dnB (dnIt 1000 (fX13_castDeed_b107 r0 p1 p2 v4 v12) 0) fun q107 =>
  dnB (dnCv r0 11 (fX13_holdsNow r0 p1 p2 v12)) fun _ =>
  dnB (dnGR r0 11 7) fun v17 =>
  dnB (dnAI v17 100 v12) fun v18 =>
  dnP v18) (fun v_ => dnP v_))
  else
  (dnP v3))
  else
  (dnP (-1)))
  else
  (dnP (-1))
abbrev jX13_castDeed (w : dnWd) (x : dnX) (b : Nat) := dnD w x b (fun _ => True) cX13_castDeed RX13 8 rmX13_castDeed "castDeed" eI
set_option maxHeartbeats 4000000 in
set_option maxRecDepth 100000 in
theorem mX13_castDeed (w : dnWd) (x : dnX) (b : Nat) (r0 : Option Nat) (p1 : Int32) (p2 : Int32) (p3 : Int32) : dnMt w x b yX13_castDeed cX13_castDeed 8 (some .int) rmX13_castDeed eI [dnV b r0, .int p1, .int p2, .int p3] (fX13_castDeed r0 p1 p2 p3) := by
  have hlv : lv_args 0 [dnV b r0, .int p1, .int p2, .int p3] = [(0, dnV b r0), (1, .int p1), (2, .int p2), (3, .int p3)] := by cases r0 <;> rfl
  refine dn_mt (by decide +kernel) roI (by cases r0 <;> exact (Nat.le_of_ble_eq_true rfl)) ?_
  rw [hlv]
  refine dn_top ?_
  show jX13_castDeed w x b 0 0 0 _ [] (dnB _ dnP)
  unfold fX13_castDeed
  refine dn_iload_n (pc := 0) 1 dX13_castDeed_0 rfl ?_
  refine dn_callS0Z (pc := 1) [.int p1]  kRX13_134 (mX13_isGrid w x b p1) rfl rfl (Nat.le_of_ble_eq_true rfl) ⟨(Nat.le_of_ble_eq_true rfl), (Nat.le_of_ble_eq_true rfl)⟩ ⟨rfl, rfl, (Nat.le_of_ble_eq_true rfl), (Nat.le_of_ble_eq_true rfl)⟩ dX13_castDeed_1 (fun v1 => ?_)
  refine dn_ifz_eq (pc := 4) 14 dX13_castDeed_4 rfl (fun _ => ?_) (fun _ => ?_)
  · refine dn_iload_n (pc := 7) 3 dX13_castDeed_7 rfl ?_
    refine dn_callS0Z (pc := 8) [.int p3]  kRX13_152 (mX13_isKind w x b p3) rfl rfl (Nat.le_of_ble_eq_true rfl) ⟨(Nat.le_of_ble_eq_true rfl), (Nat.le_of_ble_eq_true rfl)⟩ ⟨rfl, rfl, (Nat.le_of_ble_eq_true rfl), (Nat.le_of_ble_eq_true rfl)⟩ dX13_castDeed_8 (fun v2 => ?_)
    refine dn_ifz_ne (pc := 11) 16 dX13_castDeed_11 rfl (fun _ => ?_) (fun _ => ?_)
    · refine dn_aload_n (pc := 16) r0 0 dX13_castDeed_16 rfl ?_
      refine dn_iload_n (pc := 17) 1 dX13_castDeed_17 rfl ?_
      refine dn_iload_n (pc := 18) 2 dX13_castDeed_18 rfl ?_
      refine dn_callV0I (pc := 19) [.int p1, .int p2] r0 kRX13_131 (mX13_rowFault w x b r0 p1 p2) rfl rfl (Nat.le_of_ble_eq_true rfl) ⟨(Nat.le_of_ble_eq_true rfl), (Nat.le_of_ble_eq_true rfl)⟩ ⟨rfl, rfl, (Nat.le_of_ble_eq_true rfl), (Nat.le_of_ble_eq_true rfl)⟩ dX13_castDeed_19 (fun v3 => ?_)
      refine dn_istore (pc := 22) dX13_castDeed_22 (Nat.le_of_ble_eq_true rfl) (dnKp_nb 3 rfl rfl rfl (dnKp_of (lv2 := [(0, dnV b r0), (1, .int p1), (2, .int p2)]) [0, 1, 2] rfl rfl)) ?_
      refine dn_iload (pc := 24) 0 dX13_castDeed_24 rfl ?_
      refine dn_if_eq (pc := 26) 32 dX13_castDeed_26 rfl (fun _ => ?_) (fun _ => ?_)
      · refine dn_aload_n (pc := 32) r0 2 dX13_castDeed_32 rfl ?_
        refine dn_iload_n (pc := 33) 3 dX13_castDeed_33 rfl ?_
        refine dn_iload_n (pc := 34) 4 dX13_castDeed_34 rfl ?_
        refine dn_callV0I (pc := 35) [.int p1, .int p2] r0 kRX13_128 (mX13_held w x b r0 p1 p2) rfl rfl (Nat.le_of_ble_eq_true rfl) ⟨(Nat.le_of_ble_eq_true rfl), (Nat.le_of_ble_eq_true rfl)⟩ ⟨rfl, rfl, (Nat.le_of_ble_eq_true rfl), (Nat.le_of_ble_eq_true rfl)⟩ dX13_castDeed_35 (fun v4 => ?_)
        refine dn_istore (pc := 38) dX13_castDeed_38 (Nat.le_of_ble_eq_true rfl) (dnKp_of (lv2 := [(3, .int p3), (0, dnV b r0), (1, .int p1), (2, .int p2)]) [1, 2, 3, 4] rfl rfl) ?_
        refine dn_iconst (pc := 40) (v := 0) dX13_castDeed_40 rfl ?_
        refine dn_istore (pc := 41) dX13_castDeed_41 (Nat.le_of_ble_eq_true rfl) (dnKp_nb 0 rfl rfl rfl (dnKp_of (lv2 := [(3, .int p3), (0, dnV b r0), (1, .int p1), (2, .int p2)]) [1, 2, 3, 4] rfl rfl)) ?_
        refine dn_assoc ?_
        refine dn_lv [3, 4, 5, 2, 1, 0] (lv2 := (fun s => [(0, dnV b r0), (1, .int p1), (2, .int p2), (3, .int p3), (5, .int v4), (6, .int s)]) 0) rfl ?_
        refine dn_loopR (pc := 43) (body := fX13_castDeed_b43 r0 p1 p2 p3 v4) 90 (fun s => [(0, dnV b r0), (1, .int p1), (2, .int p2), (3, .int p3), (5, .int v4), (6, .int s)]) (fun q => [(0, dnV b r0), (1, .int p1), (2, .int p2), (3, .int p3), (5, .int v4)]) (fun s43 K43 E43 hK43 hE43 hR43 => ?_) (dn_rt (Nat.le_of_ble_eq_true rfl) (Nat.le_of_ble_eq_true rfl) (fun _ => rfl)) (fun q43 => ?_) 1000 0
        · unfold fX13_castDeed_b43
          refine dn_iload (pc := 43) 5 dX13_castDeed_43 rfl ?_
          refine dn_aload_n (pc := 45) r0 0 dX13_castDeed_45 rfl ?_
          refine dn_getR (pc := 46) r0 lRX13_26 dX13_castDeed_46 (fun v5 => ?_)
          refine dn_iload (pc := 49) 4 dX13_castDeed_49 rfl ?_
          refine dn_iald (pc := 51) v5 dX13_castDeed_51 (fun v6 => ?_)
          refine dn_icmp_ge (pc := 52) 90 dX13_castDeed_52 rfl (fun _ => ?_) (fun _ => ?_)
          · refine dn_leaf ?_
            exact dn_lv [0, 1, 2, 3, 4] rfl (hE43 ())
          · refine dn_iload_n (pc := 55) 3 dX13_castDeed_55 rfl ?_
            refine dn_aload_n (pc := 56) r0 0 dX13_castDeed_56 rfl ?_
            refine dn_getR (pc := 57) r0 lRX13_32 dX13_castDeed_57 (fun v7 => ?_)
            refine dn_bipush (pc := 60) (v := 12) dX13_castDeed_60 rfl ?_
            refine dn_iload (pc := 62) 4 dX13_castDeed_62 rfl ?_
            refine dn_imul (pc := 64) dX13_castDeed_64 ?_
            refine dn_iload (pc := 65) 5 dX13_castDeed_65 rfl ?_
            refine dn_iadd (pc := 67) dX13_castDeed_67 ?_
            refine dn_iald (pc := 68) v7 dX13_castDeed_68 (fun v8 => ?_)
            refine dn_callS0Z (pc := 69) [.int p3, .int v8]  kRX13_205 (mX13_takes w x b p3 v8) rfl rfl (Nat.le_of_ble_eq_true rfl) ⟨(Nat.le_of_ble_eq_true rfl), (Nat.le_of_ble_eq_true rfl)⟩ ⟨rfl, rfl, (Nat.le_of_ble_eq_true rfl), (Nat.le_of_ble_eq_true rfl)⟩ dX13_castDeed_69 (fun v9 => ?_)
            refine dn_ifz_ne (pc := 72) 84 dX13_castDeed_72 rfl (fun _ => ?_) (fun _ => ?_)
            · refine dn_iinc (pc := 84) (s43 + 1) 5 dX13_castDeed_84 rfl rfl (Nat.le_of_ble_eq_true rfl) (dnKp_nb 4 rfl rfl rfl (dnKp_of (lv2 := [(0, dnV b r0), (1, .int p1), (2, .int p2), (3, .int p3)]) [0, 1, 2, 3] rfl rfl)) ?_
              refine dn_goto (pc := 87) 43 dX13_castDeed_87 rfl ?_
              refine dn_leaf ?_
              exact dn_lv [2, 3, 4, 5, 1, 0] rfl (hK43 (s43 + 1))
            · refine dn_aload_n (pc := 75) r0 0 dX13_castDeed_75 rfl ?_
              refine dn_iload (pc := 76) 5 dX13_castDeed_76 rfl ?_
              refine dn_putI (pc := 78) r0 lRX13_13 dX13_castDeed_78 ?_
              refine dn_bipush (pc := 81) (v := -7) dX13_castDeed_81 rfl ?_
              refine dn_leaf ?_
              exact hR43 (-7) _ _ _ rfl dX13_castDeed_83
        · dsimp only [Sum.elim_inl]
          refine dn_aload_n (pc := 90) r0 0 dX13_castDeed_90 rfl ?_
          refine dn_iload_n (pc := 91) 3 dX13_castDeed_91 rfl ?_
          refine dn_aload_n (pc := 92) r0 0 dX13_castDeed_92 rfl ?_
          refine dn_getR (pc := 93) r0 lRX13_26 dX13_castDeed_93 (fun v10 => ?_)
          refine dn_iload (pc := 96) 4 dX13_castDeed_96 rfl ?_
          refine dn_iald (pc := 98) v10 dX13_castDeed_98 (fun v11 => ?_)
          refine dn_callV0I (pc := 99) [.int p3, .int v11] r0 kRX13_155 (mX13_newRow w x b r0 p3 v11) rfl rfl (Nat.le_of_ble_eq_true rfl) ⟨(Nat.le_of_ble_eq_true rfl), (Nat.le_of_ble_eq_true rfl)⟩ ⟨rfl, rfl, (Nat.le_of_ble_eq_true rfl), (Nat.le_of_ble_eq_true rfl)⟩ dX13_castDeed_99 (fun v12 => ?_)
          refine dn_istore (pc := 102) dX13_castDeed_102 (Nat.le_of_ble_eq_true rfl) (dnKp_nb 4 rfl rfl rfl (dnKp_of (lv2 := [(0, dnV b r0), (1, .int p1), (2, .int p2)]) [0, 1, 2] rfl rfl)) ?_
          refine dn_iconst (pc := 104) (v := 0) dX13_castDeed_104 rfl ?_
          refine dn_istore (pc := 105) dX13_castDeed_105 (Nat.le_of_ble_eq_true rfl) (dnKp_nb 0 rfl rfl rfl (dnKp_of (lv2 := [(5, .int v4), (0, dnV b r0), (1, .int p1), (2, .int p2)]) [1, 2, 3, 4] rfl rfl)) ?_
          refine dn_assoc ?_
          refine dn_lv [3, 4, 5, 2, 1, 0] (lv2 := (fun s => [(0, dnV b r0), (1, .int p1), (2, .int p2), (5, .int v4), (6, .int v12), (7, .int s)]) 0) rfl ?_
          refine dn_loopE (pc := 107) (body := fX13_castDeed_b107 r0 p1 p2 v4 v12) 137 (fun s => [(0, dnV b r0), (1, .int p1), (2, .int p2), (5, .int v4), (6, .int v12), (7, .int s)]) (fun q => [(0, dnV b r0), (1, .int p1), (2, .int p2), (6, .int v12)]) (fun s107 K107 E107 hK107 hE107 => ?_) (fun q107 => ?_) 1000 0
          · unfold fX13_castDeed_b107
            refine dn_iload (pc := 107) 5 dX13_castDeed_107 rfl ?_
            refine dn_aload_n (pc := 109) r0 0 dX13_castDeed_109 rfl ?_
            refine dn_getR (pc := 110) r0 lRX13_26 dX13_castDeed_110 (fun v13 => ?_)
            refine dn_iload (pc := 113) 3 dX13_castDeed_113 rfl ?_
            refine dn_iald (pc := 115) v13 dX13_castDeed_115 (fun v14 => ?_)
            refine dn_icmp_ge (pc := 116) 137 dX13_castDeed_116 rfl (fun _ => ?_) (fun _ => ?_)
            · refine dn_leaf ?_
              exact dn_lv [0, 1, 2, 4] rfl (hE107 ())
            · refine dn_aload_n (pc := 119) r0 0 dX13_castDeed_119 rfl ?_
              refine dn_iload (pc := 120) 3 dX13_castDeed_120 rfl ?_
              refine dn_iload (pc := 122) 5 dX13_castDeed_122 rfl ?_
              refine dn_iload (pc := 124) 4 dX13_castDeed_124 rfl ?_
              refine dn_iload (pc := 126) 5 dX13_castDeed_126 rfl ?_
              refine dn_callV0U (pc := 128) [.int v4, .int s107, .int v12, .int s107] r0 kRX13_280 (mX13_copies w x b r0 v4 s107 v12 s107) rfl rfl (Nat.le_of_ble_eq_true rfl) ⟨(Nat.le_of_ble_eq_true rfl), (Nat.le_of_ble_eq_true rfl)⟩ ⟨rfl, rfl, (Nat.le_of_ble_eq_true rfl), (Nat.le_of_ble_eq_true rfl)⟩ dX13_castDeed_128 (fun _ => ?_)
              refine dn_iinc (pc := 131) (s107 + 1) 5 dX13_castDeed_131 rfl rfl (Nat.le_of_ble_eq_true rfl) (dnKp_nb 4 rfl rfl rfl (dnKp_of (lv2 := [(0, dnV b r0), (1, .int p1), (2, .int p2), (5, .int v4)]) [0, 1, 2, 3] rfl rfl)) ?_
              refine dn_goto (pc := 134) 107 dX13_castDeed_134 rfl ?_
              refine dn_leaf ?_
              exact dn_lv [2, 3, 4, 5, 1, 0] rfl (hK107 (s107 + 1))
          · refine dn_aload_n (pc := 137) r0 0 dX13_castDeed_137 rfl ?_
            refine dn_iload_n (pc := 138) 1 dX13_castDeed_138 rfl ?_
            refine dn_iload_n (pc := 139) 2 dX13_castDeed_139 rfl ?_
            refine dn_iload (pc := 140) 3 dX13_castDeed_140 rfl ?_
            refine dn_callV0U (pc := 142) [.int p1, .int p2, .int v12] r0 kRX13_145 (mX13_holdsNow w x b r0 p1 p2 v12) rfl rfl (Nat.le_of_ble_eq_true rfl) ⟨(Nat.le_of_ble_eq_true rfl), (Nat.le_of_ble_eq_true rfl)⟩ ⟨rfl, rfl, (Nat.le_of_ble_eq_true rfl), (Nat.le_of_ble_eq_true rfl)⟩ dX13_castDeed_142 (fun _ => ?_)
            refine dn_aload_n (pc := 145) r0 0 dX13_castDeed_145 rfl ?_
            refine dn_getR (pc := 146) r0 lRX13_26 dX13_castDeed_146 (fun v17 => ?_)
            refine dn_iload (pc := 149) 3 dX13_castDeed_149 rfl ?_
            refine dn_iald (pc := 151) v17 dX13_castDeed_151 (fun v18 => ?_)
            exact dn_ret (Nat.le_of_ble_eq_true rfl) (Nat.le_of_ble_eq_true rfl) rfl dX13_castDeed_152
      · refine dn_iload (pc := 29) 0 dX13_castDeed_29 rfl ?_
        exact dn_ret (Nat.le_of_ble_eq_true rfl) (Nat.le_of_ble_eq_true rfl) rfl dX13_castDeed_31
    · refine dn_iconst (pc := 14) (v := -1) dX13_castDeed_14 rfl ?_
      exact dn_ret (Nat.le_of_ble_eq_true rfl) (Nat.le_of_ble_eq_true rfl) rfl dX13_castDeed_15
  · refine dn_iconst (pc := 14) (v := -1) dX13_castDeed_14 rfl ?_
    exact dn_ret (Nat.le_of_ble_eq_true rfl) (Nat.le_of_ble_eq_true rfl) rfl dX13_castDeed_15
