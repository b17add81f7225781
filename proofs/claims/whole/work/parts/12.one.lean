abbrev rmX13_isHeld : Room := { frames := 0, cells := 0, slots := 0, locals := 0 }
def fX13_isHeld_j43 (l0 : Option Nat) (l1 : Int32) (l3 : Int32) (s0 : Bool) : dnM ((Bool × Int32) ⊕ (Bool)) :=
  dnP (.inl (s0, (l3 + 1)))
def fX13_isHeld_j38 (l0 : Option Nat) (l1 : Int32) (l3 : Int32) : dnM ((Bool × Int32) ⊕ (Bool)) :=
  fX13_isHeld_j43 l0 l1 l3 true
def fX13_isHeld_b18 (c0 : Option Nat) (c1 : Int32) (s18 : Bool × Int32) : dnM ((Bool × Int32) ⊕ (Bool)) :=
  if 24 ≤ s18.2 then
  (dnP (.inr s18.1))
  else
  (if s18.1 = true then
  (fX13_isHeld_j38 c0 c1 s18.2)
  else
  (dnB (dnGR c0 11 5) fun v1 =>
  dnB (dnAI v1 100 s18.2) fun v2 =>
  if ¬ v2 = c1 then
  (fX13_isHeld_j43 c0 c1 s18.2 false)
  else
  (fX13_isHeld_j38 c0 c1 s18.2)))
def fX13_isHeld_j15 (l0 : Option Nat) (l1 : Int32) (s0 : Bool) : dnM Bool :=
  dnB (dnIt 1000 (fX13_isHeld_b18 l0 l1) (s0, 0)) fun q18 =>
  dnP q18
def fX13_isHeld (r0 : Option Nat) (p1 : Int32) : dnM Bool :=
  dnB (dnGR r0 11 8) fun v3 =>
  dnB (dnAI v3 100 p1) fun v4 =>
  if ¬ v4 = 1 then
  (fX13_isHeld_j15 r0 p1 false)
  else
  (fX13_isHeld_j15 r0 p1 true)
abbrev jX13_isHeld (w : dnWd) (x : dnX) (b : Nat) := dnD w x b (fun _ => True) cX13_isHeld RX13 4 rmX13_isHeld "isHeld" eZ
set_option maxHeartbeats 4000000 in
set_option maxRecDepth 100000 in
theorem mX13_isHeld (w : dnWd) (x : dnX) (b : Nat) (r0 : Option Nat) (p1 : Int32) : dnMt w x b yX13_isHeld cX13_isHeld 4 (some .boolean) rmX13_isHeld eZ [dnV b r0, .int p1] (fX13_isHeld r0 p1) := by
  have hlv : lv_args 0 [dnV b r0, .int p1] = [(0, dnV b r0), (1, .int p1)] := by cases r0 <;> rfl
  refine dn_mt (by decide) roZ (by cases r0 <;> exact (Nat.le_of_ble_eq_true rfl)) ?_
  rw [hlv]
  refine dn_top ?_
  show jX13_isHeld w x b 0 0 0 _ [] (dnB _ dnP)
  unfold fX13_isHeld
  have hj15 : ∀ (l0 : Option Nat) (l1 : Int32) (s0 : Bool), jX13_isHeld w x b 15 0 0 [(0, dnV b l0), (1, .int l1)] [.int (dnZ s0)] (dnB (fX13_isHeld_j15 l0 l1 s0) dnP) := by
    intro l0 l1 s0
    unfold fX13_isHeld_j15
    refine dn_istore_n (pc := 15) dX13_isHeld_15 (Nat.le_of_ble_eq_true rfl) (dnKp_nb 1 rfl rfl rfl (dnKp_of (lv2 := [(0, dnV b l0)]) [0] rfl rfl)) ?_
    refine dn_iconst (pc := 16) (v := 0) dX13_isHeld_16 rfl ?_
    refine dn_istore_n (pc := 17) dX13_isHeld_17 (Nat.le_of_ble_eq_true rfl) (dnKp_nb 0 rfl rfl rfl (dnKp_of (lv2 := [(1, .int l1), (0, dnV b l0)]) [1, 2] rfl rfl)) ?_
    refine dn_assoc ?_
    refine dn_lv [3, 2, 1, 0] (lv2 := (fun s => [(0, dnV b l0), (1, .int l1), (2, .int (dnZ s.1)), (3, .int s.2)]) (s0, 0)) rfl ?_
    refine dn_loopE (pc := 18) (body := fX13_isHeld_b18 l0 l1) 50 (fun s => [(0, dnV b l0), (1, .int l1), (2, .int (dnZ s.1)), (3, .int s.2)]) (fun q => [(2, .int (dnZ q))]) (fun s18 K18 E18 hK18 hE18 => ?_) (fun q18 => ?_) 1000 (s0, 0)
    · unfold fX13_isHeld_b18
      have hj43 : ∀ (l3 : Int32) (s0 : Bool), jX13_isHeld w x b 43 0 0 [(0, dnV b l0), (1, .int l1), (3, .int l3)] [.int (dnZ s0)] (dnB (fX13_isHeld_j43 l0 l1 l3 s0) (dnKo K18 E18)) := by
        intro l3 s0
        unfold fX13_isHeld_j43
        refine dn_istore_n (pc := 43) dX13_isHeld_43 (Nat.le_of_ble_eq_true rfl) (dnKp_nb 1 rfl rfl rfl (dnKp_of (lv2 := [(0, dnV b l0), (3, .int l3)]) [0, 2] rfl rfl)) ?_
        refine dn_iinc (pc := 44) (l3 + 1) 3 dX13_isHeld_44 rfl rfl (Nat.le_of_ble_eq_true rfl) (dnKp_nb 0 rfl rfl rfl (dnKp_of (lv2 := [(1, .int l1), (0, dnV b l0)]) [1, 2] rfl rfl)) ?_
        refine dn_goto (pc := 47) 18 dX13_isHeld_47 rfl ?_
        refine dn_leaf ?_
        exact dn_lv [3, 2, 1, 0] rfl (hK18 (s0, (l3 + 1)))
      have hj38 : ∀ (l3 : Int32), jX13_isHeld w x b 38 0 0 [(0, dnV b l0), (1, .int l1), (3, .int l3)] [] (dnB (fX13_isHeld_j38 l0 l1 l3) (dnKo K18 E18)) := by
        intro l3
        unfold fX13_isHeld_j38
        refine dn_iconst (pc := 38) (v := 1) dX13_isHeld_38 rfl ?_
        refine dn_goto (pc := 39) 43 dX13_isHeld_39 rfl ?_
        exact dn_lv [0, 1, 2] rfl (hj43 l3 true)
      refine dn_iload_n (pc := 18) 3 dX13_isHeld_18 rfl ?_
      refine dn_bipush (pc := 19) (v := 24) dX13_isHeld_19 rfl ?_
      refine dn_icmp_ge (pc := 21) 50 dX13_isHeld_21 rfl (fun _ => ?_) (fun _ => ?_)
      · refine dn_leaf ?_
        exact dn_lv [2] rfl (hE18 s18.1)
      · refine dn_iload_n (pc := 24) 2 dX13_isHeld_24 rfl ?_
        refine dn_ifz_ne (pc := 25) 38 dX13_isHeld_25 rfl (fun _ => ?_) (fun _ => ?_)
        · exact dn_lv [0, 1, 3] rfl (hj38 s18.2)
        · refine dn_aload_n (pc := 28) l0 0 dX13_isHeld_28 rfl ?_
          refine dn_getR (pc := 29) l0 lRX13_20 dX13_isHeld_29 (fun v1 => ?_)
          refine dn_iload_n (pc := 32) 3 dX13_isHeld_32 rfl ?_
          refine dn_iald (pc := 33) v1 dX13_isHeld_33 (fun v2 => ?_)
          refine dn_iload_n (pc := 34) 1 dX13_isHeld_34 rfl ?_
          refine dn_icmp_ne (pc := 35) 42 dX13_isHeld_35 rfl (fun _ => ?_) (fun _ => ?_)
          · refine dn_iconst (pc := 42) (v := 0) dX13_isHeld_42 rfl ?_
            exact dn_lv [0, 1, 3] rfl (hj43 s18.2 false)
          · exact dn_lv [0, 1, 3] rfl (hj38 s18.2)
    · refine dn_iload_n (pc := 50) 0 dX13_isHeld_50 rfl ?_
      exact dn_ret (Nat.le_of_ble_eq_true rfl) (Nat.le_of_ble_eq_true rfl) rfl dX13_isHeld_51
  refine dn_aload_n (pc := 0) r0 0 dX13_isHeld_0 rfl ?_
  refine dn_getR (pc := 1) r0 lRX13_29 dX13_isHeld_1 (fun v3 => ?_)
  refine dn_iload_n (pc := 4) 1 dX13_isHeld_4 rfl ?_
  refine dn_iald (pc := 5) v3 dX13_isHeld_5 (fun v4 => ?_)
  refine dn_iconst (pc := 6) (v := 1) dX13_isHeld_6 rfl ?_
  refine dn_icmp_ne (pc := 7) 14 dX13_isHeld_7 rfl (fun _ => ?_) (fun _ => ?_)
  · refine dn_iconst (pc := 14) (v := 0) dX13_isHeld_14 rfl ?_
    exact dn_lv [0, 1] rfl (hj15 r0 p1 false)
  · refine dn_iconst (pc := 10) (v := 1) dX13_isHeld_10 rfl ?_
    refine dn_goto (pc := 11) 15 dX13_isHeld_11 rfl ?_
    exact dn_lv [0, 1] rfl (hj15 r0 p1 true)
abbrev rmX13_newRow : Room := { frames := 1, cells := 0, slots := 0, locals := 23 }
def fX13_newRow_j76 (l0 : Option Nat) (l1 : Int32) (l3 : Int32) (l4 : Int32) (s0 : Option Nat) (s1 : Int32) (s2 : Int32) : dnM ((Int32) ⊕ (Unit)) :=
  dnB (dnTI s0 100 s1 s2) fun _ =>
  dnB (dnGR l0 11 10) fun v4 =>
  dnB (dnTL v4 102 ((12 * l3) + l4) 0) fun _ =>
  dnB (dnGR l0 11 11) fun v5 =>
  dnB (dnTD v5 103 ((12 * l3) + l4) FP.dconst0) fun _ =>
  dnP (.inl (l4 + 1))
def fX13_newRow_b46 (c0 : Option Nat) (c1 : Int32) (c3 : Int32) (s46 : Int32) : dnM ((Int32) ⊕ (Unit)) :=
  if 12 ≤ s46 then
  (dnP (.inr ()))
  else
  (dnB (dnGR c0 11 9) fun v6 =>
  if 8 ≤ c1 then
  (fX13_newRow_j76 c0 c1 c3 s46 v6 ((12 * c3) + s46) 11)
  else
  (fX13_newRow_j76 c0 c1 c3 s46 v6 ((12 * c3) + s46) c1))
def fX13_newRow_j22 (l0 : Option Nat) (l1 : Int32) (l2 : Int32) (l3 : Int32) : dnM Int32 :=
  dnB (dnGR l0 11 8) fun v1 =>
  dnB (dnTI v1 100 l3 1) fun _ =>
  dnB (dnGR l0 11 6) fun v2 =>
  dnB (dnTI v2 100 l3 l1) fun _ =>
  dnB (dnGR l0 11 7) fun v3 =>
  dnB (dnTI v3 100 l3 l2) fun _ =>
  dnB (dnIt 1000 (fX13_newRow_b46 l0 l1 l3) 0) fun q46 =>
  dnP l3
def fX13_newRow_b2 (c0 : Option Nat) (c1 : Int32) (c2 : Int32) (s2 : Int32) : dnM ((Int32) ⊕ (Int32)) :=
  if 31 ≤ s2 then
  (dnP (.inr s2))
  else
  (dnB (dnCv c0 11 (fX13_isHeld c0 s2)) fun v7 =>
  if v7 = true then
  (dnP (.inl (s2 + 1)))
  else
  (dnP (.inr s2)))
def fX13_newRow (r0 : Option Nat) (p1 : Int32) (p2 : Int32) : dnM Int32 :=
  dnB (dnIt 1000 (fX13_newRow_b2 r0 p1 p2) 0) fun q2 =>
  fX13_newRow_j22 r0 p1 p2 q2
abbrev jX13_newRow (w : dnWd) (x : dnX) (b : Nat) := dnD w x b (fun _ => True) cX13_newRow RX13 5 rmX13_newRow "newRow" eI
set_option maxHeartbeats 4000000 in
set_option maxRecDepth 100000 in
theorem mX13_newRow (w : dnWd) (x : dnX) (b : Nat) (r0 : Option Nat) (p1 : Int32) (p2 : Int32) : dnMt w x b yX13_newRow cX13_newRow 5 (some .int) rmX13_newRow eI [dnV b r0, .int p1, .int p2] (fX13_newRow r0 p1 p2) := by
  have hlv : lv_args 0 [dnV b r0, .int p1, .int p2] = [(0, dnV b r0), (1, .int p1), (2, .int p2)] := by cases r0 <;> rfl
  refine dn_mt (by decide) roI (by cases r0 <;> exact (Nat.le_of_ble_eq_true rfl)) ?_
  rw [hlv]
  refine dn_top ?_
  show jX13_newRow w x b 0 0 0 _ [] (dnB _ dnP)
  unfold fX13_newRow
  have hj22 : ∀ (l0 : Option Nat) (l1 : Int32) (l2 : Int32) (l3 : Int32), jX13_newRow w x b 22 0 0 [(0, dnV b l0), (1, .int l1), (2, .int l2), (3, .int l3)] [] (dnB (fX13_newRow_j22 l0 l1 l2 l3) dnP) := by
    intro l0 l1 l2 l3
    unfold fX13_newRow_j22
    refine dn_aload_n (pc := 22) l0 0 dX13_newRow_22 rfl ?_
    refine dn_getR (pc := 23) l0 lRX13_29 dX13_newRow_23 (fun v1 => ?_)
    refine dn_iload_n (pc := 26) 3 dX13_newRow_26 rfl ?_
    refine dn_iconst (pc := 27) (v := 1) dX13_newRow_27 rfl ?_
    refine dn_iast (pc := 28) v1 dX13_newRow_28 ?_
    refine dn_aload_n (pc := 29) l0 0 dX13_newRow_29 rfl ?_
    refine dn_getR (pc := 30) l0 lRX13_23 dX13_newRow_30 (fun v2 => ?_)
    refine dn_iload_n (pc := 33) 3 dX13_newRow_33 rfl ?_
    refine dn_iload_n (pc := 34) 1 dX13_newRow_34 rfl ?_
    refine dn_iast (pc := 35) v2 dX13_newRow_35 ?_
    refine dn_aload_n (pc := 36) l0 0 dX13_newRow_36 rfl ?_
    refine dn_getR (pc := 37) l0 lRX13_26 dX13_newRow_37 (fun v3 => ?_)
    refine dn_iload_n (pc := 40) 3 dX13_newRow_40 rfl ?_
    refine dn_iload_n (pc := 41) 2 dX13_newRow_41 rfl ?_
    refine dn_iast (pc := 42) v3 dX13_newRow_42 ?_
    refine dn_iconst (pc := 43) (v := 0) dX13_newRow_43 rfl ?_
    refine dn_istore (pc := 44) dX13_newRow_44 (Nat.le_of_ble_eq_true rfl) (dnKp_nb 3 rfl rfl rfl (dnKp_of (lv2 := [(0, dnV b l0), (1, .int l1)]) [0, 1] rfl rfl)) ?_
    refine dn_assoc ?_
    refine dn_lv [2, 3, 1, 0] (lv2 := (fun s => [(0, dnV b l0), (1, .int l1), (3, .int l3), (4, .int s)]) 0) rfl ?_
    refine dn_loopE (pc := 46) (body := fX13_newRow_b46 l0 l1 l3) 109 (fun s => [(0, dnV b l0), (1, .int l1), (3, .int l3), (4, .int s)]) (fun q => [(3, .int l3)]) (fun s46 K46 E46 hK46 hE46 => ?_) (fun q46 => ?_) 1000 0
    · unfold fX13_newRow_b46
      have hj76 : ∀ (l4 : Int32) (s0 : Option Nat) (s1 : Int32) (s2 : Int32), jX13_newRow w x b 76 0 0 [(0, dnV b l0), (1, .int l1), (3, .int l3), (4, .int l4)] [.int s2, .int s1, dnV b s0] (dnB (fX13_newRow_j76 l0 l1 l3 l4 s0 s1 s2) (dnKo K46 E46)) := by
        intro l4 s0 s1 s2
        unfold fX13_newRow_j76
        refine dn_iast (pc := 76) s0 dX13_newRow_76 ?_
        refine dn_aload_n (pc := 77) l0 0 dX13_newRow_77 rfl ?_
        refine dn_getR (pc := 78) l0 lRX13_35 dX13_newRow_78 (fun v4 => ?_)
        refine dn_bipush (pc := 81) (v := 12) dX13_newRow_81 rfl ?_
        refine dn_iload_n (pc := 83) 2 dX13_newRow_83 rfl ?_
        refine dn_imul (pc := 84) dX13_newRow_84 ?_
        refine dn_iload (pc := 85) 3 dX13_newRow_85 rfl ?_
        refine dn_iadd (pc := 87) dX13_newRow_87 ?_
        refine dn_lconst (pc := 88) (v := 0) dX13_newRow_88 rfl ?_
        refine dn_last (pc := 89) v4 dX13_newRow_89 ?_
        refine dn_aload_n (pc := 90) l0 0 dX13_newRow_90 rfl ?_
        refine dn_getR (pc := 91) l0 lRX13_39 dX13_newRow_91 (fun v5 => ?_)
        refine dn_bipush (pc := 94) (v := 12) dX13_newRow_94 rfl ?_
        refine dn_iload_n (pc := 96) 2 dX13_newRow_96 rfl ?_
        refine dn_imul (pc := 97) dX13_newRow_97 ?_
        refine dn_iload (pc := 98) 3 dX13_newRow_98 rfl ?_
        refine dn_iadd (pc := 100) dX13_newRow_100 ?_
        refine dn_dconst0 (pc := 101) dX13_newRow_101 ?_
        refine dn_dast (pc := 102) v5 dX13_newRow_102 ?_
        refine dn_iinc (pc := 103) (l4 + 1) 3 dX13_newRow_103 rfl rfl (Nat.le_of_ble_eq_true rfl) (dnKp_nb 2 rfl rfl rfl (dnKp_of (lv2 := [(0, dnV b l0), (1, .int l1)]) [0, 1] rfl rfl)) ?_
        refine dn_goto (pc := 106) 46 dX13_newRow_106 rfl ?_
        refine dn_leaf ?_
        exact dn_lv [2, 3, 1, 0] rfl (hK46 (l4 + 1))
      refine dn_iload (pc := 46) 3 dX13_newRow_46 rfl ?_
      refine dn_bipush (pc := 48) (v := 12) dX13_newRow_48 rfl ?_
      refine dn_icmp_ge (pc := 50) 109 dX13_newRow_50 rfl (fun _ => ?_) (fun _ => ?_)
      · refine dn_leaf ?_
        exact dn_lv [2] rfl (hE46 ())
      · refine dn_aload_n (pc := 53) l0 0 dX13_newRow_53 rfl ?_
        refine dn_getR (pc := 54) l0 lRX13_32 dX13_newRow_54 (fun v6 => ?_)
        refine dn_bipush (pc := 57) (v := 12) dX13_newRow_57 rfl ?_
        refine dn_iload_n (pc := 59) 2 dX13_newRow_59 rfl ?_
        refine dn_imul (pc := 60) dX13_newRow_60 ?_
        refine dn_iload (pc := 61) 3 dX13_newRow_61 rfl ?_
        refine dn_iadd (pc := 63) dX13_newRow_63 ?_
        refine dn_iload_n (pc := 64) 1 dX13_newRow_64 rfl ?_
        refine dn_bipush (pc := 65) (v := 8) dX13_newRow_65 rfl ?_
        refine dn_icmp_ge (pc := 67) 74 dX13_newRow_67 rfl (fun _ => ?_) (fun _ => ?_)
        · refine dn_bipush (pc := 74) (v := 11) dX13_newRow_74 rfl ?_
          exact dn_lv [0, 1, 2, 3] rfl (hj76 s46 v6 ((12 * l3) + s46) 11)
        · refine dn_iload_n (pc := 70) 1 dX13_newRow_70 rfl ?_
          refine dn_goto (pc := 71) 76 dX13_newRow_71 rfl ?_
          exact dn_lv [0, 1, 2, 3] rfl (hj76 s46 v6 ((12 * l3) + s46) l1)
    · refine dn_iload_n (pc := 109) 0 dX13_newRow_109 rfl ?_
      exact dn_ret (Nat.le_of_ble_eq_true rfl) (Nat.le_of_ble_eq_true rfl) rfl dX13_newRow_110
  refine dn_iconst (pc := 0) (v := 0) dX13_newRow_0 rfl ?_
  refine dn_istore_n (pc := 1) dX13_newRow_1 (Nat.le_of_ble_eq_true rfl) (dnKp_nb 2 rfl rfl rfl (dnKp_of (lv2 := [(0, dnV b r0), (1, .int p1)]) [0, 1] rfl rfl)) ?_
  refine dn_assoc ?_
  refine dn_lv [2, 3, 1, 0] (lv2 := (fun s => [(0, dnV b r0), (1, .int p1), (2, .int p2), (3, .int s)]) 0) rfl ?_
  refine dn_loopE (pc := 2) (body := fX13_newRow_b2 r0 p1 p2) 22 (fun s => [(0, dnV b r0), (1, .int p1), (2, .int p2), (3, .int s)]) (fun q => [(0, dnV b r0), (1, .int p1), (2, .int p2), (3, .int q)]) (fun s2 K2 E2 hK2 hE2 => ?_) (fun q2 => ?_) 1000 0
  · unfold fX13_newRow_b2
    refine dn_iload_n (pc := 2) 3 dX13_newRow_2 rfl ?_
    refine dn_bipush (pc := 3) (v := 31) dX13_newRow_3 rfl ?_
    refine dn_icmp_ge (pc := 5) 22 dX13_newRow_5 rfl (fun _ => ?_) (fun _ => ?_)
    · refine dn_leaf ?_
      exact dn_lv [0, 1, 2, 3] rfl (hE2 s2)
    · refine dn_aload_n (pc := 8) r0 0 dX13_newRow_8 rfl ?_
      refine dn_iload_n (pc := 9) 3 dX13_newRow_9 rfl ?_
      refine dn_callV0Z (pc := 10) [.int s2] r0 kRX13_120 (mX13_isHeld w x b r0 s2) rfl rfl (Nat.le_of_ble_eq_true rfl) ⟨(Nat.le_of_ble_eq_true rfl), (Nat.le_of_ble_eq_true rfl)⟩ ⟨rfl, rfl, (Nat.le_of_ble_eq_true rfl), (Nat.le_of_ble_eq_true rfl)⟩ dX13_newRow_10 (fun v7 => ?_)
      refine dn_ifz_eq (pc := 13) 22 dX13_newRow_13 rfl (fun _ => ?_) (fun _ => ?_)
      · refine dn_iinc (pc := 16) (s2 + 1) 3 dX13_newRow_16 rfl rfl (Nat.le_of_ble_eq_true rfl) (dnKp_nb 2 rfl rfl rfl (dnKp_of (lv2 := [(0, dnV b r0), (1, .int p1)]) [0, 1] rfl rfl)) ?_
        refine dn_goto (pc := 19) 2 dX13_newRow_19 rfl ?_
        refine dn_leaf ?_
        exact dn_lv [2, 3, 1, 0] rfl (hK2 (s2 + 1))
      · refine dn_leaf ?_
        exact dn_lv [0, 1, 2, 3] rfl (hE2 s2)
  · exact dn_lv [0, 1, 2, 3] rfl (hj22 r0 p1 p2 q2)
abbrev rmX13_lays : Room := { frames := 0, cells := 0, slots := 0, locals := 0 }
def fX13_lays (r0 : Option Nat) (p1 : Int32) (p2 : Int32) : dnM Unit :=
  dnB (dnGR r0 11 9) fun v1 =>
  dnB (dnGI r0 11 12) fun v2 =>
  dnB (dnTI v1 100 ((12 * p1) + p2) v2) fun _ =>
  dnB (dnGR r0 11 10) fun v3 =>
  dnB (dnGL r0 11 13) fun v4 =>
  dnB (dnTL v3 102 ((12 * p1) + p2) v4) fun _ =>
  dnB (dnGR r0 11 11) fun v5 =>
  dnB (dnGD r0 11 14) fun v6 =>
  dnB (dnTD v5 103 ((12 * p1) + p2) v6) fun _ =>
  dnP ()
abbrev jX13_lays (w : dnWd) (x : dnX) (b : Nat) := dnD w x b (fun _ => True) cX13_lays RX13 3 rmX13_lays "lays" eU
set_option maxHeartbeats 4000000 in
set_option maxRecDepth 100000 in
theorem mX13_lays (w : dnWd) (x : dnX) (b : Nat) (r0 : Option Nat) (p1 : Int32) (p2 : Int32) : dnMt w x b yX13_lays cX13_lays 3 none rmX13_lays eU [dnV b r0, .int p1, .int p2] (fX13_lays r0 p1 p2) := by
  have hlv : lv_args 0 [dnV b r0, .int p1, .int p2] = [(0, dnV b r0), (1, .int p1), (2, .int p2)] := by cases r0 <;> rfl
  refine dn_mt (by decide) roU (by cases r0 <;> exact (Nat.le_of_ble_eq_true rfl)) ?_
  rw [hlv]
  refine dn_top ?_
  show jX13_lays w x b 0 0 0 _ [] (dnB _ dnP)
  unfold fX13_lays
  refine dn_aload_n (pc := 0) r0 0 dX13_lays_0 rfl ?_
  refine dn_getR (pc := 1) r0 lRX13_32 dX13_lays_1 (fun v1 => ?_)
  refine dn_bipush (pc := 4) (v := 12) dX13_lays_4 rfl ?_
  refine dn_iload_n (pc := 6) 1 dX13_lays_6 rfl ?_
  refine dn_imul (pc := 7) dX13_lays_7 ?_
  refine dn_iload_n (pc := 8) 2 dX13_lays_8 rfl ?_
  refine dn_iadd (pc := 9) dX13_lays_9 ?_
  refine dn_aload_n (pc := 10) r0 0 dX13_lays_10 rfl ?_
  refine dn_getI (pc := 11) r0 lRX13_190 dX13_lays_11 (fun v2 => ?_)
  refine dn_iast (pc := 14) v1 dX13_lays_14 ?_
  refine dn_aload_n (pc := 15) r0 0 dX13_lays_15 rfl ?_
  refine dn_getR (pc := 16) r0 lRX13_35 dX13_lays_16 (fun v3 => ?_)
  refine dn_bipush (pc := 19) (v := 12) dX13_lays_19 rfl ?_
  refine dn_iload_n (pc := 21) 1 dX13_lays_21 rfl ?_
  refine dn_imul (pc := 22) dX13_lays_22 ?_
  refine dn_iload_n (pc := 23) 2 dX13_lays_23 rfl ?_
  refine dn_iadd (pc := 24) dX13_lays_24 ?_
  refine dn_aload_n (pc := 25) r0 0 dX13_lays_25 rfl ?_
  refine dn_getL (pc := 26) r0 lRX13_197 dX13_lays_26 (fun v4 => ?_)
  refine dn_last (pc := 29) v3 dX13_lays_29 ?_
  refine dn_aload_n (pc := 30) r0 0 dX13_lays_30 rfl ?_
  refine dn_getR (pc := 31) r0 lRX13_39 dX13_lays_31 (fun v5 => ?_)
  refine dn_bipush (pc := 34) (v := 12) dX13_lays_34 rfl ?_
  refine dn_iload_n (pc := 36) 1 dX13_lays_36 rfl ?_
  refine dn_imul (pc := 37) dX13_lays_37 ?_
  refine dn_iload_n (pc := 38) 2 dX13_lays_38 rfl ?_
  refine dn_iadd (pc := 39) dX13_lays_39 ?_
  refine dn_aload_n (pc := 40) r0 0 dX13_lays_40 rfl ?_
  refine dn_getD (pc := 41) r0 lRX13_193 dX13_lays_41 (fun v6 => ?_)
  refine dn_dast (pc := 44) v5 dX13_lays_44 ?_
  exact dn_ret (Nat.le_of_ble_eq_true rfl) (Nat.le_of_ble_eq_true rfl) rfl dX13_lays_45
abbrev rmX13_fromBy : Room := { frames := 1, cells := 0, slots := 0, locals := 22 }
def fX13_fromBy (r0 : Option Nat) (p1 : Int32) (p2 : Int32) (p3 : Int32) : dnM Unit :=
  dnB (dnGR r0 11 15) fun v1 =>
  dnB (dnAI v1 100 p1) fun v2 =>
  dnB (dnPI r0 11 12 v2) fun _ =>
  dnB (dnGR r0 11 16) fun v3 =>
  dnB (dnAL v3 102 p1) fun v4 =>
  dnB (dnPL r0 11 13 v4) fun _ =>
  dnB (dnGR r0 11 17) fun v5 =>
  dnB (dnAD v5 103 p1) fun v6 =>
  dnB (dnPD r0 11 14 v6) fun _ =>
  dnB (dnCv r0 11 (fX13_lays r0 p2 p3)) fun _ =>
  dnP ()
abbrev jX13_fromBy (w : dnWd) (x : dnX) (b : Nat) := dnD w x b (fun _ => True) cX13_fromBy RX13 4 rmX13_fromBy "fromBy" eU
set_option maxHeartbeats 4000000 in
set_option maxRecDepth 100000 in
theorem mX13_fromBy (w : dnWd) (x : dnX) (b : Nat) (r0 : Option Nat) (p1 : Int32) (p2 : Int32) (p3 : Int32) : dnMt w x b yX13_fromBy cX13_fromBy 4 none rmX13_fromBy eU [dnV b r0, .int p1, .int p2, .int p3] (fX13_fromBy r0 p1 p2 p3) := by
  have hlv : lv_args 0 [dnV b r0, .int p1, .int p2, .int p3] = [(0, dnV b r0), (1, .int p1), (2, .int p2), (3, .int p3)] := by cases r0 <;> rfl
  refine dn_mt (by decide) roU (by cases r0 <;> exact (Nat.le_of_ble_eq_true rfl)) ?_
  rw [hlv]
  refine dn_top ?_
  show jX13_fromBy w x b 0 0 0 _ [] (dnB _ dnP)
  unfold fX13_fromBy
  refine dn_aload_n (pc := 0) r0 0 dX13_fromBy_0 rfl ?_
  refine dn_aload_n (pc := 1) r0 0 dX13_fromBy_1 rfl ?_
  refine dn_getR (pc := 2) r0 lRX13_43 dX13_fromBy_2 (fun v1 => ?_)
  refine dn_iload_n (pc := 5) 1 dX13_fromBy_5 rfl ?_
  refine dn_iald (pc := 6) v1 dX13_fromBy_6 (fun v2 => ?_)
  refine dn_putI (pc := 7) r0 lRX13_190 dX13_fromBy_7 ?_
  refine dn_aload_n (pc := 10) r0 0 dX13_fromBy_10 rfl ?_
  refine dn_aload_n (pc := 11) r0 0 dX13_fromBy_11 rfl ?_
  refine dn_getR (pc := 12) r0 lRX13_46 dX13_fromBy_12 (fun v3 => ?_)
  refine dn_iload_n (pc := 15) 1 dX13_fromBy_15 rfl ?_
  refine dn_lald (pc := 16) v3 dX13_fromBy_16 (fun v4 => ?_)
  refine dn_putL (pc := 17) r0 lRX13_197 dX13_fromBy_17 ?_
  refine dn_aload_n (pc := 20) r0 0 dX13_fromBy_20 rfl ?_
  refine dn_aload_n (pc := 21) r0 0 dX13_fromBy_21 rfl ?_
  refine dn_getR (pc := 22) r0 lRX13_49 dX13_fromBy_22 (fun v5 => ?_)
  refine dn_iload_n (pc := 25) 1 dX13_fromBy_25 rfl ?_
  refine dn_dald (pc := 26) v5 dX13_fromBy_26 (fun v6 => ?_)
  refine dn_putD (pc := 27) r0 lRX13_193 dX13_fromBy_27 ?_
  refine dn_aload_n (pc := 30) r0 0 dX13_fromBy_30 rfl ?_
  refine dn_iload_n (pc := 31) 2 dX13_fromBy_31 rfl ?_
  refine dn_iload_n (pc := 32) 3 dX13_fromBy_32 rfl ?_
  refine dn_callV0U (pc := 33) [.int p2, .int p3] r0 kRX13_216 (mX13_lays w x b r0 p2 p3) rfl rfl (Nat.le_of_ble_eq_true rfl) ⟨(Nat.le_of_ble_eq_true rfl), (Nat.le_of_ble_eq_true rfl)⟩ ⟨rfl, rfl, (Nat.le_of_ble_eq_true rfl), (Nat.le_of_ble_eq_true rfl)⟩ dX13_fromBy_33 (fun _ => ?_)
  exact dn_ret (Nat.le_of_ble_eq_true rfl) (Nat.le_of_ble_eq_true rfl) rfl dX13_fromBy_36
abbrev rmX13_held : Room := { frames := 0, cells := 0, slots := 0, locals := 0 }
def fX13_held (r0 : Option Nat) (p1 : Int32) (p2 : Int32) : dnM Int32 :=
  dnB (dnGR r0 11 5) fun v1 =>
  dnB (dnAI v1 100 ((6 * p1) + p2)) fun v2 =>
  dnP v2
abbrev jX13_held (w : dnWd) (x : dnX) (b : Nat) := dnD w x b (fun _ => True) cX13_held RX13 3 rmX13_held "held" eI
set_option maxHeartbeats 4000000 in
set_option maxRecDepth 100000 in
theorem mX13_held (w : dnWd) (x : dnX) (b : Nat) (r0 : Option Nat) (p1 : Int32) (p2 : Int32) : dnMt w x b yX13_held cX13_held 3 (some .int) rmX13_held eI [dnV b r0, .int p1, .int p2] (fX13_held r0 p1 p2) := by
  have hlv : lv_args 0 [dnV b r0, .int p1, .int p2] = [(0, dnV b r0), (1, .int p1), (2, .int p2)] := by cases r0 <;> rfl
  refine dn_mt (by decide) roI (by cases r0 <;> exact (Nat.le_of_ble_eq_true rfl)) ?_
  rw [hlv]
  refine dn_top ?_
  show jX13_held w x b 0 0 0 _ [] (dnB _ dnP)
  unfold fX13_held
  refine dn_aload_n (pc := 0) r0 0 dX13_held_0 rfl ?_
  refine dn_getR (pc := 1) r0 lRX13_20 dX13_held_1 (fun v1 => ?_)
  refine dn_bipush (pc := 4) (v := 6) dX13_held_4 rfl ?_
  refine dn_iload_n (pc := 6) 1 dX13_held_6 rfl ?_
  refine dn_imul (pc := 7) dX13_held_7 ?_
  refine dn_iload_n (pc := 8) 2 dX13_held_8 rfl ?_
  refine dn_iadd (pc := 9) dX13_held_9 ?_
  refine dn_iald (pc := 10) v1 dX13_held_10 (fun v2 => ?_)
  exact dn_ret (Nat.le_of_ble_eq_true rfl) (Nat.le_of_ble_eq_true rfl) rfl dX13_held_11
abbrev rmX13_isBehind : Room := { frames := 0, cells := 0, slots := 0, locals := 0 }
def fX13_isBehind_j32 : dnM Bool :=
  dnP true
def fX13_isBehind (r0 : Option Nat) (p1 : Int32) (p2 : Int32) : dnM Bool :=
  dnB (dnGR r0 11 16) fun v1 =>
  dnB (dnAL v1 102 p1) fun v2 =>
  dnB (dnGR r0 11 16) fun v3 =>
  dnB (dnAL v3 102 p2) fun v4 =>
  if 0 < (lg_cmp v2 v4) then
  (fX13_isBehind_j32)
  else
  (dnB (dnGR r0 11 17) fun v5 =>
  dnB (dnAD v5 103 p1) fun v6 =>
  dnB (dnGR r0 11 17) fun v7 =>
  dnB (dnAD v7 103 p2) fun v8 =>
  if (Op.cmpValue (FP.dcmp v6 v8) .l) ≤ 0 then
  (dnP false)
  else
  (fX13_isBehind_j32))
abbrev jX13_isBehind (w : dnWd) (x : dnX) (b : Nat) := dnD w x b (fun _ => True) cX13_isBehind RX13 3 rmX13_isBehind "isBehind" eZ
set_option maxHeartbeats 4000000 in
set_option maxRecDepth 100000 in
theorem mX13_isBehind (w : dnWd) (x : dnX) (b : Nat) (r0 : Option Nat) (p1 : Int32) (p2 : Int32) : dnMt w x b yX13_isBehind cX13_isBehind 3 (some .boolean) rmX13_isBehind eZ [dnV b r0, .int p1, .int p2] (fX13_isBehind r0 p1 p2) := by
  have hlv : lv_args 0 [dnV b r0, .int p1, .int p2] = [(0, dnV b r0), (1, .int p1), (2, .int p2)] := by cases r0 <;> rfl
  refine dn_mt (by decide) roZ (by cases r0 <;> exact (Nat.le_of_ble_eq_true rfl)) ?_
  rw [hlv]
  refine dn_top ?_
  show jX13_isBehind w x b 0 0 0 _ [] (dnB _ dnP)
  unfold fX13_isBehind
  have hj32 : jX13_isBehind w x b 32 0 0 [] [] (dnB (fX13_isBehind_j32) dnP) := by
    unfold fX13_isBehind_j32
    refine dn_iconst (pc := 32) (v := 1) dX13_isBehind_32 rfl ?_
    refine dn_goto (pc := 33) 37 dX13_isBehind_33 rfl ?_
    exact dn_ret (Nat.le_of_ble_eq_true rfl) (Nat.le_of_ble_eq_true rfl) rfl dX13_isBehind_37
  refine dn_aload_n (pc := 0) r0 0 dX13_isBehind_0 rfl ?_
  refine dn_getR (pc := 1) r0 lRX13_46 dX13_isBehind_1 (fun v1 => ?_)
  refine dn_iload_n (pc := 4) 1 dX13_isBehind_4 rfl ?_
  refine dn_lald (pc := 5) v1 dX13_isBehind_5 (fun v2 => ?_)
  refine dn_aload_n (pc := 6) r0 0 dX13_isBehind_6 rfl ?_
  refine dn_getR (pc := 7) r0 lRX13_46 dX13_isBehind_7 (fun v3 => ?_)
  refine dn_iload_n (pc := 10) 2 dX13_isBehind_10 rfl ?_
  refine dn_lald (pc := 11) v3 dX13_isBehind_11 (fun v4 => ?_)
  refine dn_lcmp (pc := 12) dX13_isBehind_12 ?_
  refine dn_if_gt (pc := 13) 32 dX13_isBehind_13 rfl (fun _ => ?_) (fun _ => ?_)
  · exact dn_lv [] rfl (hj32)
  · refine dn_aload_n (pc := 16) r0 0 dX13_isBehind_16 rfl ?_
    refine dn_getR (pc := 17) r0 lRX13_49 dX13_isBehind_17 (fun v5 => ?_)
    refine dn_iload_n (pc := 20) 1 dX13_isBehind_20 rfl ?_
    refine dn_dald (pc := 21) v5 dX13_isBehind_21 (fun v6 => ?_)
    refine dn_aload_n (pc := 22) r0 0 dX13_isBehind_22 rfl ?_
    refine dn_getR (pc := 23) r0 lRX13_49 dX13_isBehind_23 (fun v7 => ?_)
    refine dn_iload_n (pc := 26) 2 dX13_isBehind_26 rfl ?_
    refine dn_dald (pc := 27) v7 dX13_isBehind_27 (fun v8 => ?_)
    refine dn_dcmp (pc := 28) dX13_isBehind_28 ?_
    refine dn_if_le (pc := 29) 36 dX13_isBehind_29 rfl (fun _ => ?_) (fun _ => ?_)
    · refine dn_iconst (pc := 36) (v := 0) dX13_isBehind_36 rfl ?_
      exact dn_ret (Nat.le_of_ble_eq_true rfl) (Nat.le_of_ble_eq_true rfl) rfl dX13_isBehind_37
    · exact dn_lv [] rfl (hj32)
abbrev rmX13_in : Room := { frames := 0, cells := 0, slots := 0, locals := 0 }
def fX13_in (p0 : Int32) (p1 : Int32) (p2 : Int32) : dnM Bool :=
  if p0 < p1 then
  (dnP false)
  else
  (if p2 < p0 then
  (dnP false)
  else
  (dnP true))
abbrev jX13_in (w : dnWd) (x : dnX) (b : Nat) := dnD w x b (fun _ => True) cX13_in RX13 3 rmX13_in "in" eZ
set_option maxHeartbeats 4000000 in
set_option maxRecDepth 100000 in
theorem mX13_in (w : dnWd) (x : dnX) (b : Nat) (p0 : Int32) (p1 : Int32) (p2 : Int32) : dnMt w x b yX13_in cX13_in 3 (some .boolean) rmX13_in eZ [.int p0, .int p1, .int p2] (fX13_in p0 p1 p2) := by
  have hlv : lv_args 0 [.int p0, .int p1, .int p2] = [(0, .int p0), (1, .int p1), (2, .int p2)] := by rfl
  refine dn_mt (by decide) roZ (by exact (Nat.le_of_ble_eq_true rfl)) ?_
  rw [hlv]
  refine dn_top ?_
  show jX13_in w x b 0 0 0 _ [] (dnB _ dnP)
  unfold fX13_in
  refine dn_iload_n (pc := 0) 0 dX13_in_0 rfl ?_
  refine dn_iload_n (pc := 1) 1 dX13_in_1 rfl ?_
  refine dn_icmp_lt (pc := 2) 14 dX13_in_2 rfl (fun _ => ?_) (fun _ => ?_)
  · refine dn_iconst (pc := 14) (v := 0) dX13_in_14 rfl ?_
    exact dn_ret (Nat.le_of_ble_eq_true rfl) (Nat.le_of_ble_eq_true rfl) rfl dX13_in_15
  · refine dn_iload_n (pc := 5) 0 dX13_in_5 rfl ?_
    refine dn_iload_n (pc := 6) 2 dX13_in_6 rfl ?_
    refine dn_icmp_gt (pc := 7) 14 dX13_in_7 rfl (fun _ => ?_) (fun _ => ?_)
    · refine dn_iconst (pc := 14) (v := 0) dX13_in_14 rfl ?_
      exact dn_ret (Nat.le_of_ble_eq_true rfl) (Nat.le_of_ble_eq_true rfl) rfl dX13_in_15
    · refine dn_iconst (pc := 10) (v := 1) dX13_in_10 rfl ?_
      refine dn_goto (pc := 11) 15 dX13_in_11 rfl ?_
      exact dn_ret (Nat.le_of_ble_eq_true rfl) (Nat.le_of_ble_eq_true rfl) rfl dX13_in_15
abbrev rmX13_isGrid : Room := { frames := 1, cells := 0, slots := 0, locals := 22 }
def fX13_isGrid (p0 : Int32) : dnM Bool :=
  dnB (fX13_in p0 0 3) fun v1 =>
  dnP v1
abbrev jX13_isGrid (w : dnWd) (x : dnX) (b : Nat) := dnD w x b (fun _ => True) cX13_isGrid RX13 1 rmX13_isGrid "isGrid" eZ
set_option maxHeartbeats 4000000 in
set_option maxRecDepth 100000 in
theorem mX13_isGrid (w : dnWd) (x : dnX) (b : Nat) (p0 : Int32) : dnMt w x b yX13_isGrid cX13_isGrid 1 (some .boolean) rmX13_isGrid eZ [.int p0] (fX13_isGrid p0) := by
  have hlv : lv_args 0 [.int p0] = [(0, .int p0)] := by rfl
  refine dn_mt (by decide) roZ (by exact (Nat.le_of_ble_eq_true rfl)) ?_
  rw [hlv]
  refine dn_top ?_
  show jX13_isGrid w x b 0 0 0 _ [] (dnB _ dnP)
  unfold fX13_isGrid
  refine dn_iload_n (pc := 0) 0 dX13_isGrid_0 rfl ?_
  refine dn_iconst (pc := 1) (v := 0) dX13_isGrid_1 rfl ?_
  refine dn_iconst (pc := 2) (v := 3) dX13_isGrid_2 rfl ?_
  refine dn_callS0Z (pc := 3) [.int p0, .int 0, .int 3]  kRX13_109 (mX13_in w x b p0 0 3) rfl rfl (Nat.le_of_ble_eq_true rfl) ⟨(Nat.le_of_ble_eq_true rfl), (Nat.le_of_ble_eq_true rfl)⟩ ⟨rfl, rfl, (Nat.le_of_ble_eq_true rfl), (Nat.le_of_ble_eq_true rfl)⟩ dX13_isGrid_3 (fun v1 => ?_)
  exact dn_ret (Nat.le_of_ble_eq_true rfl) (Nat.le_of_ble_eq_true rfl) rfl dX13_isGrid_6
abbrev rmX13_isPlain : Room := { frames := 1, cells := 0, slots := 0, locals := 22 }
def fX13_isPlain (p0 : Int32) : dnM Bool :=
  dnB (fX13_in p0 0 7) fun v1 =>
  dnP v1
abbrev jX13_isPlain (w : dnWd) (x : dnX) (b : Nat) := dnD w x b (fun _ => True) cX13_isPlain RX13 1 rmX13_isPlain "isPlain" eZ
set_option maxHeartbeats 4000000 in
set_option maxRecDepth 100000 in
theorem mX13_isPlain (w : dnWd) (x : dnX) (b : Nat) (p0 : Int32) : dnMt w x b yX13_isPlain cX13_isPlain 1 (some .boolean) rmX13_isPlain eZ [.int p0] (fX13_isPlain p0) := by
  have hlv : lv_args 0 [.int p0] = [(0, .int p0)] := by rfl
  refine dn_mt (by decide) roZ (by exact (Nat.le_of_ble_eq_true rfl)) ?_
  rw [hlv]
  refine dn_top ?_
  show jX13_isPlain w x b 0 0 0 _ [] (dnB _ dnP)
  unfold fX13_isPlain
  refine dn_iload_n (pc := 0) 0 dX13_isPlain_0 rfl ?_
  refine dn_iconst (pc := 1) (v := 0) dX13_isPlain_1 rfl ?_
  refine dn_bipush (pc := 2) (v := 7) dX13_isPlain_2 rfl ?_
  refine dn_callS0Z (pc := 4) [.int p0, .int 0, .int 7]  kRX13_109 (mX13_in w x b p0 0 7) rfl rfl (Nat.le_of_ble_eq_true rfl) ⟨(Nat.le_of_ble_eq_true rfl), (Nat.le_of_ble_eq_true rfl)⟩ ⟨rfl, rfl, (Nat.le_of_ble_eq_true rfl), (Nat.le_of_ble_eq_true rfl)⟩ dX13_isPlain_4 (fun v1 => ?_)
  exact dn_ret (Nat.le_of_ble_eq_true rfl) (Nat.le_of_ble_eq_true rfl) rfl dX13_isPlain_7
abbrev rmX13_laysBy : Room := { frames := 0, cells := 0, slots := 0, locals := 0 }
def fX13_laysBy_b2 (c0 : Option Nat) (c1 : Int32) (s2 : Int32) : dnM ((Int32) ⊕ (Unit)) :=
  if 12 ≤ s2 then
  (dnP (.inr ()))
  else
  (dnB (dnGR c0 11 15) fun v1 =>
  dnB (dnGR c0 11 9) fun v2 =>
  dnB (dnAI v2 100 ((12 * c1) + s2)) fun v3 =>
  dnB (dnTI v1 100 s2 v3) fun _ =>
  dnB (dnGR c0 11 16) fun v4 =>
  dnB (dnGR c0 11 10) fun v5 =>
  dnB (dnAL v5 102 ((12 * c1) + s2)) fun v6 =>
  dnB (dnTL v4 102 s2 v6) fun _ =>
  dnB (dnGR c0 11 17) fun v7 =>
  dnB (dnGR c0 11 11) fun v8 =>
  dnB (dnAD v8 103 ((12 * c1) + s2)) fun v9 =>
  dnB (dnTD v7 103 s2 v9) fun _ =>
  dnP (.inl (s2 + 1)))
def fX13_laysBy (r0 : Option Nat) (p1 : Int32) : dnM Unit :=
  dnB (dnIt 1000 (fX13_laysBy_b2 r0 p1) 0) fun q2 =>
  dnP ()
abbrev jX13_laysBy (w : dnWd) (x : dnX) (b : Nat) := dnD w x b (fun _ => True) cX13_laysBy RX13 3 rmX13_laysBy "laysBy" eU
set_option maxHeartbeats 4000000 in
set_option maxRecDepth 100000 in
theorem mX13_laysBy (w : dnWd) (x : dnX) (b : Nat) (r0 : Option Nat) (p1 : Int32) : dnMt w x b yX13_laysBy cX13_laysBy 3 none rmX13_laysBy eU [dnV b r0, .int p1] (fX13_laysBy r0 p1) := by
  have hlv : lv_args 0 [dnV b r0, .int p1] = [(0, dnV b r0), (1, .int p1)] := by cases r0 <;> rfl
  refine dn_mt (by decide) roU (by cases r0 <;> exact (Nat.le_of_ble_eq_true rfl)) ?_
  rw [hlv]
  refine dn_top ?_
  show jX13_laysBy w x b 0 0 0 _ [] (dnB _ dnP)
  unfold fX13_laysBy
  refine dn_iconst (pc := 0) (v := 0) dX13_laysBy_0 rfl ?_
  refine dn_istore_n (pc := 1) dX13_laysBy_1 (Nat.le_of_ble_eq_true rfl) (dnKp_nb 1 rfl rfl rfl (dnKp_of (lv2 := [(0, dnV b r0)]) [0] rfl rfl)) ?_
  refine dn_assoc ?_
  refine dn_lv [2, 1, 0] (lv2 := (fun s => [(0, dnV b r0), (1, .int p1), (2, .int s)]) 0) rfl ?_
  refine dn_loopE (pc := 2) (body := fX13_laysBy_b2 r0 p1) 65 (fun s => [(0, dnV b r0), (1, .int p1), (2, .int s)]) (fun q => []) (fun s2 K2 E2 hK2 hE2 => ?_) (fun q2 => ?_) 1000 0
  · unfold fX13_laysBy_b2
    refine dn_iload_n (pc := 2) 2 dX13_laysBy_2 rfl ?_
    refine dn_bipush (pc := 3) (v := 12) dX13_laysBy_3 rfl ?_
    refine dn_icmp_ge (pc := 5) 65 dX13_laysBy_5 rfl (fun _ => ?_) (fun _ => ?_)
    · refine dn_leaf ?_
      exact dn_lv [] rfl (hE2 ())
    · refine dn_aload_n (pc := 8) r0 0 dX13_laysBy_8 rfl ?_
      refine dn_getR (pc := 9) r0 lRX13_43 dX13_laysBy_9 (fun v1 => ?_)
      refine dn_iload_n (pc := 12) 2 dX13_laysBy_12 rfl ?_
      refine dn_aload_n (pc := 13) r0 0 dX13_laysBy_13 rfl ?_
      refine dn_getR (pc := 14) r0 lRX13_32 dX13_laysBy_14 (fun v2 => ?_)
      refine dn_bipush (pc := 17) (v := 12) dX13_laysBy_17 rfl ?_
      refine dn_iload_n (pc := 19) 1 dX13_laysBy_19 rfl ?_
      refine dn_imul (pc := 20) dX13_laysBy_20 ?_
      refine dn_iload_n (pc := 21) 2 dX13_laysBy_21 rfl ?_
      refine dn_iadd (pc := 22) dX13_laysBy_22 ?_
      refine dn_iald (pc := 23) v2 dX13_laysBy_23 (fun v3 => ?_)
      refine dn_iast (pc := 24) v1 dX13_laysBy_24 ?_
      refine dn_aload_n (pc := 25) r0 0 dX13_laysBy_25 rfl ?_
      refine dn_getR (pc := 26) r0 lRX13_46 dX13_laysBy_26 (fun v4 => ?_)
      refine dn_iload_n (pc := 29) 2 dX13_laysBy_29 rfl ?_
      refine dn_aload_n (pc := 30) r0 0 dX13_laysBy_30 rfl ?_
      refine dn_getR (pc := 31) r0 lRX13_35 dX13_laysBy_31 (fun v5 => ?_)
      refine dn_bipush (pc := 34) (v := 12) dX13_laysBy_34 rfl ?_
      refine dn_iload_n (pc := 36) 1 dX13_laysBy_36 rfl ?_
      refine dn_imul (pc := 37) dX13_laysBy_37 ?_
      refine dn_iload_n (pc := 38) 2 dX13_laysBy_38 rfl ?_
      refine dn_iadd (pc := 39) dX13_laysBy_39 ?_
      refine dn_lald (pc := 40) v5 dX13_laysBy_40 (fun v6 => ?_)
      refine dn_last (pc := 41) v4 dX13_laysBy_41 ?_
      refine dn_aload_n (pc := 42) r0 0 dX13_laysBy_42 rfl ?_
      refine dn_getR (pc := 43) r0 lRX13_49 dX13_laysBy_43 (fun v7 => ?_)
      refine dn_iload_n (pc := 46) 2 dX13_laysBy_46 rfl ?_
      refine dn_aload_n (pc := 47) r0 0 dX13_laysBy_47 rfl ?_
      refine dn_getR (pc := 48) r0 lRX13_39 dX13_laysBy_48 (fun v8 => ?_)
      refine dn_bipush (pc := 51) (v := 12) dX13_laysBy_51 rfl ?_
      refine dn_iload_n (pc := 53) 1 dX13_laysBy_53 rfl ?_
      refine dn_imul (pc := 54) dX13_laysBy_54 ?_
      refine dn_iload_n (pc := 55) 2 dX13_laysBy_55 rfl ?_
      refine dn_iadd (pc := 56) dX13_laysBy_56 ?_
      refine dn_dald (pc := 57) v8 dX13_laysBy_57 (fun v9 => ?_)
      refine dn_dast (pc := 58) v7 dX13_laysBy_58 ?_
      refine dn_iinc (pc := 59) (s2 + 1) 2 dX13_laysBy_59 rfl rfl (Nat.le_of_ble_eq_true rfl) (dnKp_nb 1 rfl rfl rfl (dnKp_of (lv2 := [(0, dnV b r0)]) [0] rfl rfl)) ?_
      refine dn_goto (pc := 62) 2 dX13_laysBy_62 rfl ?_
      refine dn_leaf ?_
      exact dn_lv [2, 1, 0] rfl (hK2 (s2 + 1))
  · exact dn_ret (Nat.le_of_ble_eq_true rfl) (Nat.le_of_ble_eq_true rfl) rfl dX13_laysBy_65
abbrev rmX13_placeFault : Room := { frames := 1, cells := 0, slots := 0, locals := 22 }
def fX13_placeFault (r0 : Option Nat) (p1 : Int32) (p2 : Int32) : dnM Int32 :=
  dnB (dnGR r0 11 4) fun v1 =>
  dnB (dnAI v1 100 p1) fun v2 =>
  if 0 ≤ v2 then
  (dnB (dnGR r0 11 4) fun v3 =>
  dnB (dnAI v3 100 p1) fun v4 =>
  dnB (fX13_in p2 0 (v4 - 1)) fun v5 =>
  if v5 = true then
  (dnP 0)
  else
  (dnP (-3)))
  else
  (dnP (-2))
abbrev jX13_placeFault (w : dnWd) (x : dnX) (b : Nat) := dnD w x b (fun _ => True) cX13_placeFault RX13 3 rmX13_placeFault "placeFault" eI
set_option maxHeartbeats 4000000 in
set_option maxRecDepth 100000 in
theorem mX13_placeFault (w : dnWd) (x : dnX) (b : Nat) (r0 : Option Nat) (p1 : Int32) (p2 : Int32) : dnMt w x b yX13_placeFault cX13_placeFault 3 (some .int) rmX13_placeFault eI [dnV b r0, .int p1, .int p2] (fX13_placeFault r0 p1 p2) := by
  have hlv : lv_args 0 [dnV b r0, .int p1, .int p2] = [(0, dnV b r0), (1, .int p1), (2, .int p2)] := by cases r0 <;> rfl
  refine dn_mt (by decide) roI (by cases r0 <;> exact (Nat.le_of_ble_eq_true rfl)) ?_
  rw [hlv]
  refine dn_top ?_
  show jX13_placeFault w x b 0 0 0 _ [] (dnB _ dnP)
  unfold fX13_placeFault
  refine dn_aload_n (pc := 0) r0 0 dX13_placeFault_0 rfl ?_
  refine dn_getR (pc := 1) r0 lRX13_17 dX13_placeFault_1 (fun v1 => ?_)
  refine dn_iload_n (pc := 4) 1 dX13_placeFault_4 rfl ?_
  refine dn_iald (pc := 5) v1 dX13_placeFault_5 (fun v2 => ?_)
  refine dn_if_ge (pc := 6) 14 dX13_placeFault_6 rfl (fun _ => ?_) (fun _ => ?_)
  · refine dn_iload_n (pc := 14) 2 dX13_placeFault_14 rfl ?_
    refine dn_iconst (pc := 15) (v := 0) dX13_placeFault_15 rfl ?_
    refine dn_aload_n (pc := 16) r0 0 dX13_placeFault_16 rfl ?_
    refine dn_getR (pc := 17) r0 lRX13_17 dX13_placeFault_17 (fun v3 => ?_)
    refine dn_iload_n (pc := 20) 1 dX13_placeFault_20 rfl ?_
    refine dn_iald (pc := 21) v3 dX13_placeFault_21 (fun v4 => ?_)
    refine dn_iconst (pc := 22) (v := 1) dX13_placeFault_22 rfl ?_
    refine dn_isub (pc := 23) dX13_placeFault_23 ?_
    refine dn_callS0Z (pc := 24) [.int p2, .int 0, .int (v4 - 1)]  kRX13_109 (mX13_in w x b p2 0 (v4 - 1)) rfl rfl (Nat.le_of_ble_eq_true rfl) ⟨(Nat.le_of_ble_eq_true rfl), (Nat.le_of_ble_eq_true rfl)⟩ ⟨rfl, rfl, (Nat.le_of_ble_eq_true rfl), (Nat.le_of_ble_eq_true rfl)⟩ dX13_placeFault_24 (fun v5 => ?_)
    refine dn_ifz_eq (pc := 27) 34 dX13_placeFault_27 rfl (fun _ => ?_) (fun _ => ?_)
    · refine dn_iconst (pc := 30) (v := 0) dX13_placeFault_30 rfl ?_
      refine dn_goto (pc := 31) 36 dX13_placeFault_31 rfl ?_
      exact dn_ret (Nat.le_of_ble_eq_true rfl) (Nat.le_of_ble_eq_true rfl) rfl dX13_placeFault_36
    · refine dn_bipush (pc := 34) (v := -3) dX13_placeFault_34 rfl ?_
      exact dn_ret (Nat.le_of_ble_eq_true rfl) (Nat.le_of_ble_eq_true rfl) rfl dX13_placeFault_36
  · refine dn_bipush (pc := 9) (v := -2) dX13_placeFault_9 rfl ?_
    refine dn_goto (pc := 11) 36 dX13_placeFault_11 rfl ?_
    exact dn_ret (Nat.le_of_ble_eq_true rfl) (Nat.le_of_ble_eq_true rfl) rfl dX13_placeFault_36
abbrev rmX13_rowFault : Room := { frames := 2, cells := 0, slots := 0, locals := 44 }
def fX13_rowFault (r0 : Option Nat) (p1 : Int32) (p2 : Int32) : dnM Int32 :=
  dnB (dnCv r0 11 (fX13_placeFault r0 p1 p2)) fun v1 =>
  if v1 = 0 then
  (dnB (dnCv r0 11 (fX13_held r0 p1 p2)) fun v2 =>
  if ¬ v2 = (-1) then
  (if 0 ≤ v2 then
  (dnP 0)
  else
  (dnP (-5)))
  else
  (dnP (-4)))
  else
  (dnP v1)
abbrev jX13_rowFault (w : dnWd) (x : dnX) (b : Nat) := dnD w x b (fun _ => True) cX13_rowFault RX13 5 rmX13_rowFault "rowFault" eI
set_option maxHeartbeats 4000000 in
set_option maxRecDepth 100000 in
theorem mX13_rowFault (w : dnWd) (x : dnX) (b : Nat) (r0 : Option Nat) (p1 : Int32) (p2 : Int32) : dnMt w x b yX13_rowFault cX13_rowFault 5 (some .int) rmX13_rowFault eI [dnV b r0, .int p1, .int p2] (fX13_rowFault r0 p1 p2) := by
  have hlv : lv_args 0 [dnV b r0, .int p1, .int p2] = [(0, dnV b r0), (1, .int p1), (2, .int p2)] := by cases r0 <;> rfl
  refine dn_mt (by decide) roI (by cases r0 <;> exact (Nat.le_of_ble_eq_true rfl)) ?_
  rw [hlv]
  refine dn_top ?_
  show jX13_rowFault w x b 0 0 0 _ [] (dnB _ dnP)
  unfold fX13_rowFault
  refine dn_aload_n (pc := 0) r0 0 dX13_rowFault_0 rfl ?_
  refine dn_iload_n (pc := 1) 1 dX13_rowFault_1 rfl ?_
  refine dn_iload_n (pc := 2) 2 dX13_rowFault_2 rfl ?_
  refine dn_callV0I (pc := 3) [.int p1, .int p2] r0 kRX13_124 (mX13_placeFault w x b r0 p1 p2) rfl rfl (Nat.le_of_ble_eq_true rfl) ⟨(Nat.le_of_ble_eq_true rfl), (Nat.le_of_ble_eq_true rfl)⟩ ⟨rfl, rfl, (Nat.le_of_ble_eq_true rfl), (Nat.le_of_ble_eq_true rfl)⟩ dX13_rowFault_3 (fun v1 => ?_)
  refine dn_istore_n (pc := 6) dX13_rowFault_6 (Nat.le_of_ble_eq_true rfl) (dnKp_nb 2 rfl rfl rfl (dnKp_of (lv2 := [(0, dnV b r0), (1, .int p1)]) [0, 1] rfl rfl)) ?_
  refine dn_iload_n (pc := 7) 0 dX13_rowFault_7 rfl ?_
  refine dn_if_eq (pc := 8) 13 dX13_rowFault_8 rfl (fun _ => ?_) (fun _ => ?_)
  · refine dn_aload_n (pc := 13) r0 2 dX13_rowFault_13 rfl ?_
    refine dn_iload_n (pc := 14) 3 dX13_rowFault_14 rfl ?_
    refine dn_iload_n (pc := 15) 1 dX13_rowFault_15 rfl ?_
    refine dn_callV0I (pc := 16) [.int p1, .int p2] r0 kRX13_128 (mX13_held w x b r0 p1 p2) rfl rfl (Nat.le_of_ble_eq_true rfl) ⟨(Nat.le_of_ble_eq_true rfl), (Nat.le_of_ble_eq_true rfl)⟩ ⟨rfl, rfl, (Nat.le_of_ble_eq_true rfl), (Nat.le_of_ble_eq_true rfl)⟩ dX13_rowFault_16 (fun v2 => ?_)
    refine dn_istore (pc := 19) dX13_rowFault_19 (Nat.le_of_ble_eq_true rfl) (dnKp_of (lv2 := []) [] rfl rfl) ?_
    refine dn_iload (pc := 21) 0 dX13_rowFault_21 rfl ?_
    refine dn_iconst (pc := 23) (v := -1) dX13_rowFault_23 rfl ?_
    refine dn_icmp_ne (pc := 24) 32 dX13_rowFault_24 rfl (fun _ => ?_) (fun _ => ?_)
    · refine dn_iload (pc := 32) 0 dX13_rowFault_32 rfl ?_
      refine dn_if_ge (pc := 34) 42 dX13_rowFault_34 rfl (fun _ => ?_) (fun _ => ?_)
      · refine dn_iconst (pc := 42) (v := 0) dX13_rowFault_42 rfl ?_
        exact dn_ret (Nat.le_of_ble_eq_true rfl) (Nat.le_of_ble_eq_true rfl) rfl dX13_rowFault_43
      · refine dn_bipush (pc := 37) (v := -5) dX13_rowFault_37 rfl ?_
        refine dn_goto (pc := 39) 43 dX13_rowFault_39 rfl ?_
        exact dn_ret (Nat.le_of_ble_eq_true rfl) (Nat.le_of_ble_eq_true rfl) rfl dX13_rowFault_43
    · refine dn_bipush (pc := 27) (v := -4) dX13_rowFault_27 rfl ?_
      refine dn_goto (pc := 29) 43 dX13_rowFault_29 rfl ?_
      exact dn_ret (Nat.le_of_ble_eq_true rfl) (Nat.le_of_ble_eq_true rfl) rfl dX13_rowFault_43
  · refine dn_iload_n (pc := 11) 0 dX13_rowFault_11 rfl ?_
    exact dn_ret (Nat.le_of_ble_eq_true rfl) (Nat.le_of_ble_eq_true rfl) rfl dX13_rowFault_12
abbrev rmX13_orderDeed : Room := { frames := 3, cells := 0, slots := 0, locals := 68 }
def fX13_orderDeed_j120 (l0 : Option Nat) (l4 : Int32) (l5 : Int32) (l6 : Int32) (l8 : Int32) (s0 : Int32) (s1 : Bool) : dnM ((Int32 × Int32) ⊕ (Int32)) :=
  dnP (.inl ((s0 + (dnZ s1)), (l8 + 1)))
def fX13_orderDeed_j119 (l0 : Option Nat) (l4 : Int32) (l5 : Int32) (l6 : Int32) (l8 : Int32) (s0 : Int32) : dnM ((Int32 × Int32) ⊕ (Int32)) :=
  fX13_orderDeed_j120 l0 l4 l5 l6 l8 s0 false
def fX13_orderDeed_j115 (l0 : Option Nat) (l4 : Int32) (l5 : Int32) (l6 : Int32) (l8 : Int32) (s0 : Int32) : dnM ((Int32 × Int32) ⊕ (Int32)) :=
  fX13_orderDeed_j120 l0 l4 l5 l6 l8 s0 true
def fX13_orderDeed_b77 (c0 : Option Nat) (c4 : Int32) (c5 : Int32) (c6 : Int32) (s77 : Int32 × Int32) : dnM ((Int32 × Int32) ⊕ (Int32)) :=
  if c5 ≤ s77.2 then
  (dnP (.inr s77.1))
  else
  (dnB (dnCv c0 11 (fX13_isBehind c0 c6 s77.2)) fun v10 =>
  if v10 = true then
  (fX13_orderDeed_j115 c0 c4 c5 c6 s77.2 s77.1)
  else
  (dnB (dnCv c0 11 (fX13_isBehind c0 s77.2 c6)) fun v11 =>
  if v11 = true then
  (fX13_orderDeed_j119 c0 c4 c5 c6 s77.2 s77.1)
  else
  (if c6 ≤ s77.2 then
  (fX13_orderDeed_j119 c0 c4 c5 c6 s77.2 s77.1)
  else
  (fX13_orderDeed_j115 c0 c4 c5 c6 s77.2 s77.1))))
def fX13_orderDeed_b64 (c0 : Option Nat) (c4 : Int32) (c5 : Int32) (s64 : Int32) : dnM ((Int32) ⊕ (Unit)) :=
  if c5 ≤ s64 then
  (dnP (.inr ()))
  else
  (dnB (dnIt 1000 (fX13_orderDeed_b77 c0 c4 c5 s64) (0, 0)) fun q77 =>
  dnB (dnCv c0 11 (fX13_fromBy c0 s64 c4 q77)) fun _ =>
  dnP (.inl (s64 + 1)))
def fX13_orderDeed_j213 (l0 : Option Nat) (l4 : Int32) (l5 : Int32) (l7 : Int32) (s0 : Int32) (s1 : Bool) : dnM ((Int32 × Int32) ⊕ (Int32)) :=
  dnP (.inl ((s0 + (dnZ s1)), (l7 + 1)))
def fX13_orderDeed_j208 (l0 : Option Nat) (l4 : Int32) (l5 : Int32) (l7 : Int32) (s0 : Int32) : dnM ((Int32 × Int32) ⊕ (Int32)) :=
  fX13_orderDeed_j213 l0 l4 l5 l7 s0 true
def fX13_orderDeed_b151 (c0 : Option Nat) (c4 : Int32) (c5 : Int32) (s151 : Int32 × Int32) : dnM ((Int32 × Int32) ⊕ (Int32)) :=
  if c5 ≤ s151.2 then
  (dnP (.inr s151.1))
  else
  (dnB (dnGR c0 11 10) fun v13 =>
  dnB (dnAL v13 102 ((12 * c4) + s151.2)) fun v14 =>
  dnB (dnGR c0 11 16) fun v15 =>
  dnB (dnAL v15 102 s151.2) fun v16 =>
  if ¬ (lg_cmp v14 v16) = 0 then
  (fX13_orderDeed_j208 c0 c4 c5 s151.2 s151.1)
  else
  (dnB (dnGR c0 11 11) fun v17 =>
  dnB (dnAD v17 103 ((12 * c4) + s151.2)) fun v18 =>
  dnB (dnGR c0 11 17) fun v19 =>
  dnB (dnAD v19 103 s151.2) fun v20 =>
  if (Op.cmpValue (FP.dcmp v18 v20) .l) = 0 then
  (fX13_orderDeed_j213 c0 c4 c5 s151.2 s151.1 false)
  else
  (fX13_orderDeed_j208 c0 c4 c5 s151.2 s151.1)))
def fX13_orderDeed (r0 : Option Nat) (p1 : Int32) (p2 : Int32) : dnM Int32 :=
  dnB (fX13_isGrid p1) fun v1 =>
  if v1 = true then
  (dnB (dnCv r0 11 (fX13_rowFault r0 p1 p2)) fun v2 =>
  if v2 = 0 then
  (dnB (dnCv r0 11 (fX13_held r0 p1 p2)) fun v3 =>
  dnB (dnGR r0 11 6) fun v4 =>
  dnB (dnAI v4 100 v3) fun v5 =>
  dnB (fX13_isPlain v5) fun v6 =>
  if v6 = true then
  (dnB (dnCv r0 11 (fX13_laysBy r0 v3)) fun _ =>
  dnB (dnGR r0 11 7) fun v8 =>
  dnB (dnAI v8 100 v3) fun v9 =>
  dnB (dnIt 1000 (fX13_orderDeed_b64 r0 v3 v9) 0) fun q64 =>
  dnB (dnIt 1000 (fX13_orderDeed_b151 r0 v3 v9) (0, 0)) fun q151 =>
  dnP q151)
  else
  (dnP (-7)))
  else
  (dnP v2))
  else
  (dnP (-1))
abbrev jX13_orderDeed (w : dnWd) (x : dnX) (b : Nat) := dnD w x b (fun _ => True) cX13_orderDeed RX13 9 rmX13_orderDeed "orderDeed" eI
set_option maxHeartbeats 4000000 in
set_option maxRecDepth 100000 in
theorem mX13_orderDeed (w : dnWd) (x : dnX) (b : Nat) (r0 : Option Nat) (p1 : Int32) (p2 : Int32) : dnMt w x b yX13_orderDeed cX13_orderDeed 9 (some .int) rmX13_orderDeed eI [dnV b r0, .int p1, .int p2] (fX13_orderDeed r0 p1 p2) := by
  have hlv : lv_args 0 [dnV b r0, .int p1, .int p2] = [(0, dnV b r0), (1, .int p1), (2, .int p2)] := by cases r0 <;> rfl
  refine dn_mt (by decide) roI (by cases r0 <;> exact (Nat.le_of_ble_eq_true rfl)) ?_
  rw [hlv]
  refine dn_top ?_
  show jX13_orderDeed w x b 0 0 0 _ [] (dnB _ dnP)
  unfold fX13_orderDeed
  refine dn_iload_n (pc := 0) 1 dX13_orderDeed_0 rfl ?_
  refine dn_callS0Z (pc := 1) [.int p1]  kRX13_134 (mX13_isGrid w x b p1) rfl rfl (Nat.le_of_ble_eq_true rfl) ⟨(Nat.le_of_ble_eq_true rfl), (Nat.le_of_ble_eq_true rfl)⟩ ⟨rfl, rfl, (Nat.le_of_ble_eq_true rfl), (Nat.le_of_ble_eq_true rfl)⟩ dX13_orderDeed_1 (fun v1 => ?_)
  refine dn_ifz_ne (pc := 4) 9 dX13_orderDeed_4 rfl (fun _ => ?_) (fun _ => ?_)
  · refine dn_aload_n (pc := 9) r0 0 dX13_orderDeed_9 rfl ?_
    refine dn_iload_n (pc := 10) 1 dX13_orderDeed_10 rfl ?_
    refine dn_iload_n (pc := 11) 2 dX13_orderDeed_11 rfl ?_
    refine dn_callV0I (pc := 12) [.int p1, .int p2] r0 kRX13_131 (mX13_rowFault w x b r0 p1 p2) rfl rfl (Nat.le_of_ble_eq_true rfl) ⟨(Nat.le_of_ble_eq_true rfl), (Nat.le_of_ble_eq_true rfl)⟩ ⟨rfl, rfl, (Nat.le_of_ble_eq_true rfl), (Nat.le_of_ble_eq_true rfl)⟩ dX13_orderDeed_12 (fun v2 => ?_)
    refine dn_istore_n (pc := 15) dX13_orderDeed_15 (Nat.le_of_ble_eq_true rfl) (dnKp_nb 2 rfl rfl rfl (dnKp_of (lv2 := [(0, dnV b r0), (1, .int p1)]) [0, 1] rfl rfl)) ?_
    refine dn_iload_n (pc := 16) 0 dX13_orderDeed_16 rfl ?_
    refine dn_if_eq (pc := 17) 22 dX13_orderDeed_17 rfl (fun _ => ?_) (fun _ => ?_)
    · refine dn_aload_n (pc := 22) r0 2 dX13_orderDeed_22 rfl ?_
      refine dn_iload_n (pc := 23) 3 dX13_orderDeed_23 rfl ?_
      refine dn_iload_n (pc := 24) 1 dX13_orderDeed_24 rfl ?_
      refine dn_callV0I (pc := 25) [.int p1, .int p2] r0 kRX13_128 (mX13_held w x b r0 p1 p2) rfl rfl (Nat.le_of_ble_eq_true rfl) ⟨(Nat.le_of_ble_eq_true rfl), (Nat.le_of_ble_eq_true rfl)⟩ ⟨rfl, rfl, (Nat.le_of_ble_eq_true rfl), (Nat.le_of_ble_eq_true rfl)⟩ dX13_orderDeed_25 (fun v3 => ?_)
      refine dn_istore (pc := 28) dX13_orderDeed_28 (Nat.le_of_ble_eq_true rfl) (dnKp_of (lv2 := [(0, dnV b r0)]) [2] rfl rfl) ?_
      refine dn_aload_n (pc := 30) r0 1 dX13_orderDeed_30 rfl ?_
      refine dn_getR (pc := 31) r0 lRX13_23 dX13_orderDeed_31 (fun v4 => ?_)
      refine dn_iload (pc := 34) 0 dX13_orderDeed_34 rfl ?_
      refine dn_iald (pc := 36) v4 dX13_orderDeed_36 (fun v5 => ?_)
      refine dn_callS0Z (pc := 37) [.int v5]  kRX13_209 (mX13_isPlain w x b v5) rfl rfl (Nat.le_of_ble_eq_true rfl) ⟨(Nat.le_of_ble_eq_true rfl), (Nat.le_of_ble_eq_true rfl)⟩ ⟨rfl, rfl, (Nat.le_of_ble_eq_true rfl), (Nat.le_of_ble_eq_true rfl)⟩ dX13_orderDeed_37 (fun v6 => ?_)
      refine dn_ifz_ne (pc := 40) 46 dX13_orderDeed_40 rfl (fun _ => ?_) (fun _ => ?_)
      · refine dn_aload_n (pc := 46) r0 1 dX13_orderDeed_46 rfl ?_
        refine dn_iload (pc := 47) 0 dX13_orderDeed_47 rfl ?_
        refine dn_callV0U (pc := 49) [.int v3] r0 kRX13_300 (mX13_laysBy w x b r0 v3) rfl rfl (Nat.le_of_ble_eq_true rfl) ⟨(Nat.le_of_ble_eq_true rfl), (Nat.le_of_ble_eq_true rfl)⟩ ⟨rfl, rfl, (Nat.le_of_ble_eq_true rfl), (Nat.le_of_ble_eq_true rfl)⟩ dX13_orderDeed_49 (fun _ => ?_)
        refine dn_aload_n (pc := 52) r0 1 dX13_orderDeed_52 rfl ?_
        refine dn_getR (pc := 53) r0 lRX13_26 dX13_orderDeed_53 (fun v8 => ?_)
        refine dn_iload (pc := 56) 0 dX13_orderDeed_56 rfl ?_
        refine dn_iald (pc := 58) v8 dX13_orderDeed_58 (fun v9 => ?_)
        refine dn_istore (pc := 59) dX13_orderDeed_59 (Nat.le_of_ble_eq_true rfl) (dnKp_nb 0 rfl rfl rfl (dnKp_of (lv2 := [(0, dnV b r0)]) [1] rfl rfl)) ?_
        refine dn_iconst (pc := 61) (v := 0) dX13_orderDeed_61 rfl ?_
        refine dn_istore (pc := 62) dX13_orderDeed_62 (Nat.le_of_ble_eq_true rfl) (dnKp_nb 0 rfl rfl rfl (dnKp_of (lv2 := [(4, .int v3), (0, dnV b r0)]) [1, 2] rfl rfl)) ?_
        refine dn_assoc ?_
        refine dn_lv [3, 2, 1, 0] (lv2 := (fun s => [(0, dnV b r0), (4, .int v3), (5, .int v9), (6, .int s)]) 0) rfl ?_
        refine dn_loopE (pc := 64) (body := fX13_orderDeed_b64 r0 v3 v9) 145 (fun s => [(0, dnV b r0), (4, .int v3), (5, .int v9), (6, .int s)]) (fun q => [(0, dnV b r0), (4, .int v3), (5, .int v9)]) (fun s64 K64 E64 hK64 hE64 => ?_) (fun q64 => ?_) 1000 0
        · unfold fX13_orderDeed_b64
          refine dn_iload (pc := 64) 3 dX13_orderDeed_64 rfl ?_
          refine dn_iload (pc := 66) 2 dX13_orderDeed_66 rfl ?_
          refine dn_icmp_ge (pc := 68) 145 dX13_orderDeed_68 rfl (fun _ => ?_) (fun _ => ?_)
          · refine dn_leaf ?_
            exact dn_lv [0, 1, 2] rfl (hE64 ())
          · refine dn_iconst (pc := 71) (v := 0) dX13_orderDeed_71 rfl ?_
            refine dn_istore (pc := 72) dX13_orderDeed_72 (Nat.le_of_ble_eq_true rfl) (dnKp_nb 3 rfl rfl rfl (dnKp_of (lv2 := [(0, dnV b r0), (4, .int v3), (5, .int v9)]) [0, 1, 2] rfl rfl)) ?_
            refine dn_iconst (pc := 74) (v := 0) dX13_orderDeed_74 rfl ?_
            refine dn_istore (pc := 75) dX13_orderDeed_75 (Nat.le_of_ble_eq_true rfl) (dnKp_nb 0 rfl rfl rfl (dnKp_of (lv2 := [(6, .int s64), (0, dnV b r0), (4, .int v3), (5, .int v9)]) [1, 2, 3, 4] rfl rfl)) ?_
            refine dn_assoc ?_
            refine dn_lv [3, 4, 5, 2, 1, 0] (lv2 := (fun s => [(0, dnV b r0), (4, .int v3), (5, .int v9), (6, .int s64), (7, .int s.1), (8, .int s.2)]) (0, 0)) rfl ?_
            refine dn_loopE (pc := 77) (body := fX13_orderDeed_b77 r0 v3 v9 s64) 129 (fun s => [(0, dnV b r0), (4, .int v3), (5, .int v9), (6, .int s64), (7, .int s.1), (8, .int s.2)]) (fun q => [(0, dnV b r0), (4, .int v3), (5, .int v9), (6, .int s64), (7, .int q)]) (fun s77 K77 E77 hK77 hE77 => ?_) (fun q77 => ?_) 1000 (0, 0)
            · unfold fX13_orderDeed_b77
              have hj120 : ∀ (l8 : Int32) (s0 : Int32) (s1 : Bool), jX13_orderDeed w x b 120 0 0 [(0, dnV b r0), (4, .int v3), (5, .int v9), (6, .int s64), (8, .int l8)] [.int (dnZ s1), .int s0] (dnB (fX13_orderDeed_j120 r0 v3 v9 s64 l8 s0 s1) (dnKo K77 E77)) := by
                intro l8 s0 s1
                unfold fX13_orderDeed_j120
                refine dn_iadd (pc := 120) dX13_orderDeed_120 ?_
                refine dn_istore (pc := 121) dX13_orderDeed_121 (Nat.le_of_ble_eq_true rfl) (dnKp_nb 3 rfl rfl rfl (dnKp_of (lv2 := [(0, dnV b r0), (4, .int v3), (5, .int v9), (8, .int l8)]) [0, 1, 2, 4] rfl rfl)) ?_
                refine dn_iinc (pc := 123) (l8 + 1) 5 dX13_orderDeed_123 rfl rfl (Nat.le_of_ble_eq_true rfl) (dnKp_nb 0 rfl rfl rfl (dnKp_of (lv2 := [(6, .int s64), (0, dnV b r0), (4, .int v3), (5, .int v9)]) [1, 2, 3, 4] rfl rfl)) ?_
                refine dn_goto (pc := 126) 77 dX13_orderDeed_126 rfl ?_
                refine dn_leaf ?_
                exact dn_lv [3, 4, 5, 2, 1, 0] rfl (hK77 ((s0 + (dnZ s1)), (l8 + 1)))
              have hj119 : ∀ (l8 : Int32) (s0 : Int32), jX13_orderDeed w x b 119 0 0 [(0, dnV b r0), (4, .int v3), (5, .int v9), (6, .int s64), (8, .int l8)] [.int s0] (dnB (fX13_orderDeed_j119 r0 v3 v9 s64 l8 s0) (dnKo K77 E77)) := by
                intro l8 s0
                unfold fX13_orderDeed_j119
                refine dn_iconst (pc := 119) (v := 0) dX13_orderDeed_119 rfl ?_
                exact dn_lv [0, 1, 2, 3, 4] rfl (hj120 l8 s0 false)
              have hj115 : ∀ (l8 : Int32) (s0 : Int32), jX13_orderDeed w x b 115 0 0 [(0, dnV b r0), (4, .int v3), (5, .int v9), (6, .int s64), (8, .int l8)] [.int s0] (dnB (fX13_orderDeed_j115 r0 v3 v9 s64 l8 s0) (dnKo K77 E77)) := by
                intro l8 s0
                unfold fX13_orderDeed_j115
                refine dn_iconst (pc := 115) (v := 1) dX13_orderDeed_115 rfl ?_
                refine dn_goto (pc := 116) 120 dX13_orderDeed_116 rfl ?_
                exact dn_lv [0, 1, 2, 3, 4] rfl (hj120 l8 s0 true)
              refine dn_iload (pc := 77) 5 dX13_orderDeed_77 rfl ?_
              refine dn_iload (pc := 79) 2 dX13_orderDeed_79 rfl ?_
              refine dn_icmp_ge (pc := 81) 129 dX13_orderDeed_81 rfl (fun _ => ?_) (fun _ => ?_)
              · refine dn_leaf ?_
                exact dn_lv [0, 1, 2, 3, 4] rfl (hE77 s77.1)
              · refine dn_iload (pc := 84) 4 dX13_orderDeed_84 rfl ?_
                refine dn_aload_n (pc := 86) r0 0 dX13_orderDeed_86 rfl ?_
                refine dn_iload (pc := 87) 3 dX13_orderDeed_87 rfl ?_
                refine dn_iload (pc := 89) 5 dX13_orderDeed_89 rfl ?_
                refine dn_callV0Z (pc := 91) [.int s64, .int s77.2] r0 kRX13_312 (mX13_isBehind w x b r0 s64 s77.2) rfl rfl (Nat.le_of_ble_eq_true rfl) ⟨(Nat.le_of_ble_eq_true rfl), (Nat.le_of_ble_eq_true rfl)⟩ ⟨rfl, rfl, (Nat.le_of_ble_eq_true rfl), (Nat.le_of_ble_eq_true rfl)⟩ dX13_orderDeed_91 (fun v10 => ?_)
                refine dn_ifz_ne (pc := 94) 115 dX13_orderDeed_94 rfl (fun _ => ?_) (fun _ => ?_)
                · exact dn_lv [0, 1, 2, 3, 5] rfl (hj115 s77.2 s77.1)
                · refine dn_aload_n (pc := 97) r0 0 dX13_orderDeed_97 rfl ?_
                  refine dn_iload (pc := 98) 5 dX13_orderDeed_98 rfl ?_
                  refine dn_iload (pc := 100) 3 dX13_orderDeed_100 rfl ?_
                  refine dn_callV0Z (pc := 102) [.int s77.2, .int s64] r0 kRX13_312 (mX13_isBehind w x b r0 s77.2 s64) rfl rfl (Nat.le_of_ble_eq_true rfl) ⟨(Nat.le_of_ble_eq_true rfl), (Nat.le_of_ble_eq_true rfl)⟩ ⟨rfl, rfl, (Nat.le_of_ble_eq_true rfl), (Nat.le_of_ble_eq_true rfl)⟩ dX13_orderDeed_102 (fun v11 => ?_)
                  refine dn_ifz_ne (pc := 105) 119 dX13_orderDeed_105 rfl (fun _ => ?_) (fun _ => ?_)
                  · exact dn_lv [0, 1, 2, 3, 5] rfl (hj119 s77.2 s77.1)
                  · refine dn_iload (pc := 108) 5 dX13_orderDeed_108 rfl ?_
                    refine dn_iload (pc := 110) 3 dX13_orderDeed_110 rfl ?_
                    refine dn_icmp_ge (pc := 112) 119 dX13_orderDeed_112 rfl (fun _ => ?_) (fun _ => ?_)
                    · exact dn_lv [0, 1, 2, 3, 5] rfl (hj119 s77.2 s77.1)
                    · exact dn_lv [0, 1, 2, 3, 5] rfl (hj115 s77.2 s77.1)
            · refine dn_aload_n (pc := 129) r0 0 dX13_orderDeed_129 rfl ?_
              refine dn_iload (pc := 130) 3 dX13_orderDeed_130 rfl ?_
              refine dn_iload (pc := 132) 1 dX13_orderDeed_132 rfl ?_
              refine dn_iload (pc := 134) 4 dX13_orderDeed_134 rfl ?_
              refine dn_callV0U (pc := 136) [.int s64, .int v3, .int q77] r0 kRX13_303 (mX13_fromBy w x b r0 s64 v3 q77) rfl rfl (Nat.le_of_ble_eq_true rfl) ⟨(Nat.le_of_ble_eq_true rfl), (Nat.le_of_ble_eq_true rfl)⟩ ⟨rfl, rfl, (Nat.le_of_ble_eq_true rfl), (Nat.le_of_ble_eq_true rfl)⟩ dX13_orderDeed_136 (fun _ => ?_)
              refine dn_iinc (pc := 139) (s64 + 1) 3 dX13_orderDeed_139 rfl rfl (Nat.le_of_ble_eq_true rfl) (dnKp_nb 2 rfl rfl rfl (dnKp_of (lv2 := [(0, dnV b r0), (4, .int v3)]) [0, 1] rfl rfl)) ?_
              refine dn_goto (pc := 142) 64 dX13_orderDeed_142 rfl ?_
              refine dn_leaf ?_
              exact dn_lv [2, 3, 1, 0] rfl (hK64 (s64 + 1))
        · refine dn_iconst (pc := 145) (v := 0) dX13_orderDeed_145 rfl ?_
          refine dn_istore (pc := 146) dX13_orderDeed_146 (Nat.le_of_ble_eq_true rfl) (dnKp_nb 2 rfl rfl rfl (dnKp_of (lv2 := [(0, dnV b r0), (4, .int v3)]) [0, 1] rfl rfl)) ?_
          refine dn_iconst (pc := 148) (v := 0) dX13_orderDeed_148 rfl ?_
          refine dn_istore (pc := 149) dX13_orderDeed_149 (Nat.le_of_ble_eq_true rfl) (dnKp_nb 0 rfl rfl rfl (dnKp_of (lv2 := [(5, .int v9), (0, dnV b r0), (4, .int v3)]) [1, 2, 3] rfl rfl)) ?_
          refine dn_assoc ?_
          refine dn_lv [3, 4, 2, 1, 0] (lv2 := (fun s => [(0, dnV b r0), (4, .int v3), (5, .int v9), (6, .int s.1), (7, .int s.2)]) (0, 0)) rfl ?_
          refine dn_loopE (pc := 151) (body := fX13_orderDeed_b151 r0 v3 v9) 222 (fun s => [(0, dnV b r0), (4, .int v3), (5, .int v9), (6, .int s.1), (7, .int s.2)]) (fun q => [(6, .int q)]) (fun s151 K151 E151 hK151 hE151 => ?_) (fun q151 => ?_) 1000 (0, 0)
          · unfold fX13_orderDeed_b151
            have hj213 : ∀ (l7 : Int32) (s0 : Int32) (s1 : Bool), jX13_orderDeed w x b 213 0 0 [(0, dnV b r0), (4, .int v3), (5, .int v9), (7, .int l7)] [.int (dnZ s1), .int s0] (dnB (fX13_orderDeed_j213 r0 v3 v9 l7 s0 s1) (dnKo K151 E151)) := by
              intro l7 s0 s1
              unfold fX13_orderDeed_j213
              refine dn_iadd (pc := 213) dX13_orderDeed_213 ?_
              refine dn_istore (pc := 214) dX13_orderDeed_214 (Nat.le_of_ble_eq_true rfl) (dnKp_nb 2 rfl rfl rfl (dnKp_of (lv2 := [(0, dnV b r0), (4, .int v3), (7, .int l7)]) [0, 1, 3] rfl rfl)) ?_
              refine dn_iinc (pc := 216) (l7 + 1) 4 dX13_orderDeed_216 rfl rfl (Nat.le_of_ble_eq_true rfl) (dnKp_nb 0 rfl rfl rfl (dnKp_of (lv2 := [(5, .int v9), (0, dnV b r0), (4, .int v3)]) [1, 2, 3] rfl rfl)) ?_
              refine dn_goto (pc := 219) 151 dX13_orderDeed_219 rfl ?_
              refine dn_leaf ?_
              exact dn_lv [3, 4, 2, 1, 0] rfl (hK151 ((s0 + (dnZ s1)), (l7 + 1)))
            have hj208 : ∀ (l7 : Int32) (s0 : Int32), jX13_orderDeed w x b 208 0 0 [(0, dnV b r0), (4, .int v3), (5, .int v9), (7, .int l7)] [.int s0] (dnB (fX13_orderDeed_j208 r0 v3 v9 l7 s0) (dnKo K151 E151)) := by
              intro l7 s0
              unfold fX13_orderDeed_j208
              refine dn_iconst (pc := 208) (v := 1) dX13_orderDeed_208 rfl ?_
              refine dn_goto (pc := 209) 213 dX13_orderDeed_209 rfl ?_
              exact dn_lv [0, 1, 2, 3] rfl (hj213 l7 s0 true)
            refine dn_iload (pc := 151) 4 dX13_orderDeed_151 rfl ?_
            refine dn_iload (pc := 153) 2 dX13_orderDeed_153 rfl ?_
            refine dn_icmp_ge (pc := 155) 222 dX13_orderDeed_155 rfl (fun _ => ?_) (fun _ => ?_)
            · refine dn_leaf ?_
              exact dn_lv [3] rfl (hE151 s151.1)
            · refine dn_iload (pc := 158) 3 dX13_orderDeed_158 rfl ?_
              refine dn_aload_n (pc := 160) r0 0 dX13_orderDeed_160 rfl ?_
              refine dn_getR (pc := 161) r0 lRX13_35 dX13_orderDeed_161 (fun v13 => ?_)
              refine dn_bipush (pc := 164) (v := 12) dX13_orderDeed_164 rfl ?_
              refine dn_iload (pc := 166) 1 dX13_orderDeed_166 rfl ?_
              refine dn_imul (pc := 168) dX13_orderDeed_168 ?_
              refine dn_iload (pc := 169) 4 dX13_orderDeed_169 rfl ?_
              refine dn_iadd (pc := 171) dX13_orderDeed_171 ?_
              refine dn_lald (pc := 172) v13 dX13_orderDeed_172 (fun v14 => ?_)
              refine dn_aload_n (pc := 173) r0 0 dX13_orderDeed_173 rfl ?_
              refine dn_getR (pc := 174) r0 lRX13_46 dX13_orderDeed_174 (fun v15 => ?_)
              refine dn_iload (pc := 177) 4 dX13_orderDeed_177 rfl ?_
              refine dn_lald (pc := 179) v15 dX13_orderDeed_179 (fun v16 => ?_)
              refine dn_lcmp (pc := 180) dX13_orderDeed_180 ?_
              refine dn_if_ne (pc := 181) 208 dX13_orderDeed_181 rfl (fun _ => ?_) (fun _ => ?_)
              · exact dn_lv [0, 1, 2, 4] rfl (hj208 s151.2 s151.1)
              · refine dn_aload_n (pc := 184) r0 0 dX13_orderDeed_184 rfl ?_
                refine dn_getR (pc := 185) r0 lRX13_39 dX13_orderDeed_185 (fun v17 => ?_)
                refine dn_bipush (pc := 188) (v := 12) dX13_orderDeed_188 rfl ?_
                refine dn_iload (pc := 190) 1 dX13_orderDeed_190 rfl ?_
                refine dn_imul (pc := 192) dX13_orderDeed_192 ?_
                refine dn_iload (pc := 193) 4 dX13_orderDeed_193 rfl ?_
                refine dn_iadd (pc := 195) dX13_orderDeed_195 ?_
                refine dn_dald (pc := 196) v17 dX13_orderDeed_196 (fun v18 => ?_)
                refine dn_aload_n (pc := 197) r0 0 dX13_orderDeed_197 rfl ?_
                refine dn_getR (pc := 198) r0 lRX13_49 dX13_orderDeed_198 (fun v19 => ?_)
                refine dn_iload (pc := 201) 4 dX13_orderDeed_201 rfl ?_
                refine dn_dald (pc := 203) v19 dX13_orderDeed_203 (fun v20 => ?_)
                refine dn_dcmp (pc := 204) dX13_orderDeed_204 ?_
                refine dn_if_eq (pc := 205) 212 dX13_orderDeed_205 rfl (fun _ => ?_) (fun _ => ?_)
                · refine dn_iconst (pc := 212) (v := 0) dX13_orderDeed_212 rfl ?_
                  exact dn_lv [0, 1, 2, 4] rfl (hj213 s151.2 s151.1 false)
                · exact dn_lv [0, 1, 2, 4] rfl (hj208 s151.2 s151.1)
          · refine dn_iload (pc := 222) 0 dX13_orderDeed_222 rfl ?_
            exact dn_ret (Nat.le_of_ble_eq_true rfl) (Nat.le_of_ble_eq_true rfl) rfl dX13_orderDeed_224
      · refine dn_bipush (pc := 43) (v := -7) dX13_orderDeed_43 rfl ?_
        exact dn_ret (Nat.le_of_ble_eq_true rfl) (Nat.le_of_ble_eq_true rfl) rfl dX13_orderDeed_45
    · refine dn_iload_n (pc := 20) 0 dX13_orderDeed_20 rfl ?_
      exact dn_ret (Nat.le_of_ble_eq_true rfl) (Nat.le_of_ble_eq_true rfl) rfl dX13_orderDeed_21
  · refine dn_iconst (pc := 7) (v := -1) dX13_orderDeed_7 rfl ?_
    exact dn_ret (Nat.le_of_ble_eq_true rfl) (Nat.le_of_ble_eq_true rfl) rfl dX13_orderDeed_8
abbrev rmX13_isRow : Room := { frames := 1, cells := 0, slots := 0, locals := 22 }
def fX13_isRow (r0 : Option Nat) (p1 : Int32) (p2 : Int32) : dnM Bool :=
  dnB (dnCv r0 11 (fX13_held r0 p1 p2)) fun v1 =>
  if v1 < 0 then
  (dnP false)
  else
  (dnP true)
abbrev jX13_isRow (w : dnWd) (x : dnX) (b : Nat) := dnD w x b (fun _ => True) cX13_isRow RX13 3 rmX13_isRow "isRow" eZ
set_option maxHeartbeats 4000000 in
set_option maxRecDepth 100000 in
theorem mX13_isRow (w : dnWd) (x : dnX) (b : Nat) (r0 : Option Nat) (p1 : Int32) (p2 : Int32) : dnMt w x b yX13_isRow cX13_isRow 3 (some .boolean) rmX13_isRow eZ [dnV b r0, .int p1, .int p2] (fX13_isRow r0 p1 p2) := by
  have hlv : lv_args 0 [dnV b r0, .int p1, .int p2] = [(0, dnV b r0), (1, .int p1), (2, .int p2)] := by cases r0 <;> rfl
  refine dn_mt (by decide) roZ (by cases r0 <;> exact (Nat.le_of_ble_eq_true rfl)) ?_
  rw [hlv]
  refine dn_top ?_
  show jX13_isRow w x b 0 0 0 _ [] (dnB _ dnP)
  unfold fX13_isRow
  refine dn_aload_n (pc := 0) r0 0 dX13_isRow_0 rfl ?_
  refine dn_iload_n (pc := 1) 1 dX13_isRow_1 rfl ?_
  refine dn_iload_n (pc := 2) 2 dX13_isRow_2 rfl ?_
  refine dn_callV0I (pc := 3) [.int p1, .int p2] r0 kRX13_128 (mX13_held w x b r0 p1 p2) rfl rfl (Nat.le_of_ble_eq_true rfl) ⟨(Nat.le_of_ble_eq_true rfl), (Nat.le_of_ble_eq_true rfl)⟩ ⟨rfl, rfl, (Nat.le_of_ble_eq_true rfl), (Nat.le_of_ble_eq_true rfl)⟩ dX13_isRow_3 (fun v1 => ?_)
  refine dn_if_lt (pc := 6) 13 dX13_isRow_6 rfl (fun _ => ?_) (fun _ => ?_)
  · refine dn_iconst (pc := 13) (v := 0) dX13_isRow_13 rfl ?_
    exact dn_ret (Nat.le_of_ble_eq_true rfl) (Nat.le_of_ble_eq_true rfl) rfl dX13_isRow_14
  · refine dn_iconst (pc := 9) (v := 1) dX13_isRow_9 rfl ?_
    refine dn_goto (pc := 10) 14 dX13_isRow_10 rfl ?_
    exact dn_ret (Nat.le_of_ble_eq_true rfl) (Nat.le_of_ble_eq_true rfl) rfl dX13_isRow_14
abbrev rmX13_hasCell : Room := { frames := 2, cells := 0, slots := 0, locals := 44 }
def fX13_hasCell (r0 : Option Nat) (p1 : Int32) (p2 : Int32) (p3 : Int32) : dnM Bool :=
  dnB (dnGR r0 11 4) fun v1 =>
  dnB (dnAI v1 100 p1) fun v2 =>
  dnB (fX13_in p2 0 (v2 - 1)) fun v3 =>
  if v3 = true then
  (dnB (dnCv r0 11 (fX13_isRow r0 p1 p2)) fun v4 =>
  if v4 = true then
  (dnB (dnGR r0 11 7) fun v5 =>
  dnB (dnCv r0 11 (fX13_held r0 p1 p2)) fun v6 =>
  dnB (dnAI v5 100 v6) fun v7 =>
  dnB (fX13_in p3 0 (v7 - 1)) fun v8 =>
  if v8 = true then
  (dnP true)
  else
  (dnP false))
  else
  (dnP false))
  else
  (dnP false)
abbrev jX13_hasCell (w : dnWd) (x : dnX) (b : Nat) := dnD w x b (fun _ => True) cX13_hasCell RX13 4 rmX13_hasCell "hasCell" eZ
set_option maxHeartbeats 4000000 in
set_option maxRecDepth 100000 in
theorem mX13_hasCell (w : dnWd) (x : dnX) (b : Nat) (r0 : Option Nat) (p1 : Int32) (p2 : Int32) (p3 : Int32) : dnMt w x b yX13_hasCell cX13_hasCell 4 (some .boolean) rmX13_hasCell eZ [dnV b r0, .int p1, .int p2, .int p3] (fX13_hasCell r0 p1 p2 p3) := by
  have hlv : lv_args 0 [dnV b r0, .int p1, .int p2, .int p3] = [(0, dnV b r0), (1, .int p1), (2, .int p2), (3, .int p3)] := by cases r0 <;> rfl
  refine dn_mt (by decide) roZ (by cases r0 <;> exact (Nat.le_of_ble_eq_true rfl)) ?_
  rw [hlv]
  refine dn_top ?_
  show jX13_hasCell w x b 0 0 0 _ [] (dnB _ dnP)
  unfold fX13_hasCell
  refine dn_iload_n (pc := 0) 2 dX13_hasCell_0 rfl ?_
  refine dn_iconst (pc := 1) (v := 0) dX13_hasCell_1 rfl ?_
  refine dn_aload_n (pc := 2) r0 0 dX13_hasCell_2 rfl ?_
  refine dn_getR (pc := 3) r0 lRX13_17 dX13_hasCell_3 (fun v1 => ?_)
  refine dn_iload_n (pc := 6) 1 dX13_hasCell_6 rfl ?_
  refine dn_iald (pc := 7) v1 dX13_hasCell_7 (fun v2 => ?_)
  refine dn_iconst (pc := 8) (v := 1) dX13_hasCell_8 rfl ?_
  refine dn_isub (pc := 9) dX13_hasCell_9 ?_
  refine dn_callS0Z (pc := 10) [.int p2, .int 0, .int (v2 - 1)]  kRX13_109 (mX13_in w x b p2 0 (v2 - 1)) rfl rfl (Nat.le_of_ble_eq_true rfl) ⟨(Nat.le_of_ble_eq_true rfl), (Nat.le_of_ble_eq_true rfl)⟩ ⟨rfl, rfl, (Nat.le_of_ble_eq_true rfl), (Nat.le_of_ble_eq_true rfl)⟩ dX13_hasCell_10 (fun v3 => ?_)
  refine dn_ifz_eq (pc := 13) 50 dX13_hasCell_13 rfl (fun _ => ?_) (fun _ => ?_)
  · refine dn_aload_n (pc := 16) r0 0 dX13_hasCell_16 rfl ?_
    refine dn_iload_n (pc := 17) 1 dX13_hasCell_17 rfl ?_
    refine dn_iload_n (pc := 18) 2 dX13_hasCell_18 rfl ?_
    refine dn_callV0Z (pc := 19) [.int p1, .int p2] r0 kRX13_336 (mX13_isRow w x b r0 p1 p2) rfl rfl (Nat.le_of_ble_eq_true rfl) ⟨(Nat.le_of_ble_eq_true rfl), (Nat.le_of_ble_eq_true rfl)⟩ ⟨rfl, rfl, (Nat.le_of_ble_eq_true rfl), (Nat.le_of_ble_eq_true rfl)⟩ dX13_hasCell_19 (fun v4 => ?_)
    refine dn_ifz_eq (pc := 22) 50 dX13_hasCell_22 rfl (fun _ => ?_) (fun _ => ?_)
    · refine dn_iload_n (pc := 25) 3 dX13_hasCell_25 rfl ?_
      refine dn_iconst (pc := 26) (v := 0) dX13_hasCell_26 rfl ?_
      refine dn_aload_n (pc := 27) r0 0 dX13_hasCell_27 rfl ?_
      refine dn_getR (pc := 28) r0 lRX13_26 dX13_hasCell_28 (fun v5 => ?_)
      refine dn_aload_n (pc := 31) r0 0 dX13_hasCell_31 rfl ?_
      refine dn_iload_n (pc := 32) 1 dX13_hasCell_32 rfl ?_
      refine dn_iload_n (pc := 33) 2 dX13_hasCell_33 rfl ?_
      refine dn_callV0I (pc := 34) [.int p1, .int p2] r0 kRX13_128 (mX13_held w x b r0 p1 p2) rfl rfl (Nat.le_of_ble_eq_true rfl) ⟨(Nat.le_of_ble_eq_true rfl), (Nat.le_of_ble_eq_true rfl)⟩ ⟨rfl, rfl, (Nat.le_of_ble_eq_true rfl), (Nat.le_of_ble_eq_true rfl)⟩ dX13_hasCell_34 (fun v6 => ?_)
      refine dn_iald (pc := 37) v5 dX13_hasCell_37 (fun v7 => ?_)
      refine dn_iconst (pc := 38) (v := 1) dX13_hasCell_38 rfl ?_
      refine dn_isub (pc := 39) dX13_hasCell_39 ?_
      refine dn_callS0Z (pc := 40) [.int p3, .int 0, .int (v7 - 1)]  kRX13_109 (mX13_in w x b p3 0 (v7 - 1)) rfl rfl (Nat.le_of_ble_eq_true rfl) ⟨(Nat.le_of_ble_eq_true rfl), (Nat.le_of_ble_eq_true rfl)⟩ ⟨rfl, rfl, (Nat.le_of_ble_eq_true rfl), (Nat.le_of_ble_eq_true rfl)⟩ dX13_hasCell_40 (fun v8 => ?_)
      refine dn_ifz_eq (pc := 43) 50 dX13_hasCell_43 rfl (fun _ => ?_) (fun _ => ?_)
      · refine dn_iconst (pc := 46) (v := 1) dX13_hasCell_46 rfl ?_
        refine dn_goto (pc := 47) 51 dX13_hasCell_47 rfl ?_
        exact dn_ret (Nat.le_of_ble_eq_true rfl) (Nat.le_of_ble_eq_true rfl) rfl dX13_hasCell_51
      · refine dn_iconst (pc := 50) (v := 0) dX13_hasCell_50 rfl ?_
        exact dn_ret (Nat.le_of_ble_eq_true rfl) (Nat.le_of_ble_eq_true rfl) rfl dX13_hasCell_51
    · refine dn_iconst (pc := 50) (v := 0) dX13_hasCell_50 rfl ?_
      exact dn_ret (Nat.le_of_ble_eq_true rfl) (Nat.le_of_ble_eq_true rfl) rfl dX13_hasCell_51
  · refine dn_iconst (pc := 50) (v := 0) dX13_hasCell_50 rfl ?_
    exact dn_ret (Nat.le_of_ble_eq_true rfl) (Nat.le_of_ble_eq_true rfl) rfl dX13_hasCell_51
abbrev rmX13_takes : Room := { frames := 1, cells := 0, slots := 0, locals := 22 }
def fX13_takes_j170 : dnM Bool :=
  dnP true
def fX13_takes_j152 : dnM Bool :=
  dnP true
def fX13_takes_j128 : dnM Bool :=
  dnP true
def fX13_takes_j108 (l0 : Int32) (l1 : Int32) : dnM Bool :=
  dnB (fX13_in l1 1 l0) fun v1 =>
  dnP v1
def fX13_takes_j102 : dnM Bool :=
  dnP true
def fX13_takes (p0 : Int32) (p1 : Int32) : dnM Bool :=
  if p0 = 0 then
  (if ¬ p1 = 0 then
  (dnP false)
  else
  (dnP true))
  else
  (if p0 = 1 then
  (if ¬ p1 = 1 then
  (dnP false)
  else
  (dnP true))
  else
  (if p0 = 2 then
  (if ¬ p1 = 2 then
  (dnP false)
  else
  (dnP true))
  else
  (if p0 = 3 then
  (if p1 = 1 then
  (fX13_takes_j102)
  else
  (if ¬ p1 = 3 then
  (dnP false)
  else
  (fX13_takes_j102)))
  else
  (if p0 = 4 then
  (fX13_takes_j108 p0 p1)
  else
  (if p0 = 5 then
  (fX13_takes_j108 p0 p1)
  else
  (if p0 = 6 then
  (fX13_takes_j108 p0 p1)
  else
  (if p0 = 7 then
  (fX13_takes_j108 p0 p1)
  else
  (if p0 = 8 then
  (dnP true)
  else
  (if p0 = 9 then
  (if p1 = 4 then
  (fX13_takes_j128)
  else
  (if ¬ p1 = 11 then
  (dnP false)
  else
  (fX13_takes_j128)))
  else
  (if p0 = 10 then
  (if p1 = 8 then
  (fX13_takes_j152)
  else
  (if p1 = 9 then
  (fX13_takes_j152)
  else
  (if ¬ p1 = 11 then
  (dnP false)
  else
  (fX13_takes_j152))))
  else
  (if p1 = 10 then
  (fX13_takes_j170)
  else
  (if ¬ p1 = 11 then
  (dnP false)
  else
  (fX13_takes_j170)))))))))))))
abbrev jX13_takes (w : dnWd) (x : dnX) (b : Nat) := dnD w x b (fun _ => True) cX13_takes RX13 2 rmX13_takes "takes" eZ
set_option maxHeartbeats 4000000 in
set_option maxRecDepth 100000 in
theorem mX13_takes (w : dnWd) (x : dnX) (b : Nat) (p0 : Int32) (p1 : Int32) : dnMt w x b yX13_takes cX13_takes 2 (some .boolean) rmX13_takes eZ [.int p0, .int p1] (fX13_takes p0 p1) := by
  have hlv : lv_args 0 [.int p0, .int p1] = [(0, .int p0), (1, .int p1)] := by rfl
  refine dn_mt (by decide) roZ (by exact (Nat.le_of_ble_eq_true rfl)) ?_
  rw [hlv]
  refine dn_top ?_
  show jX13_takes w x b 0 0 0 _ [] (dnB _ dnP)
  unfold fX13_takes
  have hj170 : jX13_takes w x b 170 0 0 [] [] (dnB (fX13_takes_j170) dnP) := by
    unfold fX13_takes_j170
    refine dn_iconst (pc := 170) (v := 1) dX13_takes_170 rfl ?_
    refine dn_goto (pc := 171) 175 dX13_takes_171 rfl ?_
    exact dn_ret (Nat.le_of_ble_eq_true rfl) (Nat.le_of_ble_eq_true rfl) rfl dX13_takes_175
  have hj152 : jX13_takes w x b 152 0 0 [] [] (dnB (fX13_takes_j152) dnP) := by
    unfold fX13_takes_j152
    refine dn_iconst (pc := 152) (v := 1) dX13_takes_152 rfl ?_
    refine dn_goto (pc := 153) 157 dX13_takes_153 rfl ?_
    exact dn_ret (Nat.le_of_ble_eq_true rfl) (Nat.le_of_ble_eq_true rfl) rfl dX13_takes_157
  have hj128 : jX13_takes w x b 128 0 0 [] [] (dnB (fX13_takes_j128) dnP) := by
    unfold fX13_takes_j128
    refine dn_iconst (pc := 128) (v := 1) dX13_takes_128 rfl ?_
    refine dn_goto (pc := 129) 133 dX13_takes_129 rfl ?_
    exact dn_ret (Nat.le_of_ble_eq_true rfl) (Nat.le_of_ble_eq_true rfl) rfl dX13_takes_133
  have hj108 : ∀ (l0 : Int32) (l1 : Int32), jX13_takes w x b 108 0 0 [(0, .int l0), (1, .int l1)] [] (dnB (fX13_takes_j108 l0 l1) dnP) := by
    intro l0 l1
    unfold fX13_takes_j108
    refine dn_iload_n (pc := 108) 1 dX13_takes_108 rfl ?_
    refine dn_iconst (pc := 109) (v := 1) dX13_takes_109 rfl ?_
    refine dn_iload_n (pc := 110) 0 dX13_takes_110 rfl ?_
    refine dn_callS0Z (pc := 111) [.int l1, .int 1, .int l0]  kRX13_109 (mX13_in w x b l1 1 l0) rfl rfl (Nat.le_of_ble_eq_true rfl) ⟨(Nat.le_of_ble_eq_true rfl), (Nat.le_of_ble_eq_true rfl)⟩ ⟨rfl, rfl, (Nat.le_of_ble_eq_true rfl), (Nat.le_of_ble_eq_true rfl)⟩ dX13_takes_111 (fun v1 => ?_)
    exact dn_ret (Nat.le_of_ble_eq_true rfl) (Nat.le_of_ble_eq_true rfl) rfl dX13_takes_114
  have hj102 : jX13_takes w x b 102 0 0 [] [] (dnB (fX13_takes_j102) dnP) := by
    unfold fX13_takes_j102
    refine dn_iconst (pc := 102) (v := 1) dX13_takes_102 rfl ?_
    refine dn_goto (pc := 103) 107 dX13_takes_103 rfl ?_
    exact dn_ret (Nat.le_of_ble_eq_true rfl) (Nat.le_of_ble_eq_true rfl) rfl dX13_takes_107
  refine dn_iload_n (pc := 0) 0 dX13_takes_0 rfl ?_
  refine dn_tcase (pc := 1) 0 60 dX13_takes_1 (by decide) (by decide) rfl rfl (fun _ => ?_) (fun n1_0 => ?_)
  · refine dn_iload_n (pc := 60) 1 dX13_takes_60 rfl ?_
    refine dn_if_ne (pc := 61) 68 dX13_takes_61 rfl (fun _ => ?_) (fun _ => ?_)
    · refine dn_iconst (pc := 68) (v := 0) dX13_takes_68 rfl ?_
      exact dn_ret (Nat.le_of_ble_eq_true rfl) (Nat.le_of_ble_eq_true rfl) rfl dX13_takes_69
    · refine dn_iconst (pc := 64) (v := 1) dX13_takes_64 rfl ?_
      refine dn_goto (pc := 65) 69 dX13_takes_65 rfl ?_
      exact dn_ret (Nat.le_of_ble_eq_true rfl) (Nat.le_of_ble_eq_true rfl) rfl dX13_takes_69
  · refine dn_tcase (pc := 1) 1 70 dX13_takes_1 (by decide) (by decide) rfl rfl (fun _ => ?_) (fun n1_1 => ?_)
    · refine dn_iload_n (pc := 70) 1 dX13_takes_70 rfl ?_
      refine dn_iconst (pc := 71) (v := 1) dX13_takes_71 rfl ?_
      refine dn_icmp_ne (pc := 72) 79 dX13_takes_72 rfl (fun _ => ?_) (fun _ => ?_)
      · refine dn_iconst (pc := 79) (v := 0) dX13_takes_79 rfl ?_
        exact dn_ret (Nat.le_of_ble_eq_true rfl) (Nat.le_of_ble_eq_true rfl) rfl dX13_takes_80
      · refine dn_iconst (pc := 75) (v := 1) dX13_takes_75 rfl ?_
        refine dn_goto (pc := 76) 80 dX13_takes_76 rfl ?_
        exact dn_ret (Nat.le_of_ble_eq_true rfl) (Nat.le_of_ble_eq_true rfl) rfl dX13_takes_80
    · refine dn_tcase (pc := 1) 2 81 dX13_takes_1 (by decide) (by decide) rfl rfl (fun _ => ?_) (fun n1_2 => ?_)
      · refine dn_iload_n (pc := 81) 1 dX13_takes_81 rfl ?_
        refine dn_iconst (pc := 82) (v := 2) dX13_takes_82 rfl ?_
        refine dn_icmp_ne (pc := 83) 90 dX13_takes_83 rfl (fun _ => ?_) (fun _ => ?_)
        · refine dn_iconst (pc := 90) (v := 0) dX13_takes_90 rfl ?_
          exact dn_ret (Nat.le_of_ble_eq_true rfl) (Nat.le_of_ble_eq_true rfl) rfl dX13_takes_91
        · refine dn_iconst (pc := 86) (v := 1) dX13_takes_86 rfl ?_
          refine dn_goto (pc := 87) 91 dX13_takes_87 rfl ?_
          exact dn_ret (Nat.le_of_ble_eq_true rfl) (Nat.le_of_ble_eq_true rfl) rfl dX13_takes_91
      · refine dn_tcase (pc := 1) 3 92 dX13_takes_1 (by decide) (by decide) rfl rfl (fun _ => ?_) (fun n1_3 => ?_)
        · refine dn_iload_n (pc := 92) 1 dX13_takes_92 rfl ?_
          refine dn_iconst (pc := 93) (v := 1) dX13_takes_93 rfl ?_
          refine dn_icmp_eq (pc := 94) 102 dX13_takes_94 rfl (fun _ => ?_) (fun _ => ?_)
          · exact dn_lv [] rfl (hj102)
          · refine dn_iload_n (pc := 97) 1 dX13_takes_97 rfl ?_
            refine dn_iconst (pc := 98) (v := 3) dX13_takes_98 rfl ?_
            refine dn_icmp_ne (pc := 99) 106 dX13_takes_99 rfl (fun _ => ?_) (fun _ => ?_)
            · refine dn_iconst (pc := 106) (v := 0) dX13_takes_106 rfl ?_
              exact dn_ret (Nat.le_of_ble_eq_true rfl) (Nat.le_of_ble_eq_true rfl) rfl dX13_takes_107
            · exact dn_lv [] rfl (hj102)
        · refine dn_tcase (pc := 1) 4 108 dX13_takes_1 (by decide) (by decide) rfl rfl (fun _ => ?_) (fun n1_4 => ?_)
          · exact dn_lv [0, 1] rfl (hj108 p0 p1)
          · refine dn_tcase (pc := 1) 5 108 dX13_takes_1 (by decide) (by decide) rfl rfl (fun _ => ?_) (fun n1_5 => ?_)
            · exact dn_lv [0, 1] rfl (hj108 p0 p1)
            · refine dn_tcase (pc := 1) 6 108 dX13_takes_1 (by decide) (by decide) rfl rfl (fun _ => ?_) (fun n1_6 => ?_)
              · exact dn_lv [0, 1] rfl (hj108 p0 p1)
              · refine dn_tcase (pc := 1) 7 108 dX13_takes_1 (by decide) (by decide) rfl rfl (fun _ => ?_) (fun n1_7 => ?_)
                · exact dn_lv [0, 1] rfl (hj108 p0 p1)
                · refine dn_tcase (pc := 1) 8 115 dX13_takes_1 (by decide) (by decide) rfl rfl (fun _ => ?_) (fun n1_8 => ?_)
                  · refine dn_iconst (pc := 115) (v := 1) dX13_takes_115 rfl ?_
                    exact dn_ret (Nat.le_of_ble_eq_true rfl) (Nat.le_of_ble_eq_true rfl) rfl dX13_takes_116
                  · refine dn_tcase (pc := 1) 9 117 dX13_takes_1 (by decide) (by decide) rfl rfl (fun _ => ?_) (fun n1_9 => ?_)
                    · refine dn_iload_n (pc := 117) 1 dX13_takes_117 rfl ?_
                      refine dn_iconst (pc := 118) (v := 4) dX13_takes_118 rfl ?_
                      refine dn_icmp_eq (pc := 119) 128 dX13_takes_119 rfl (fun _ => ?_) (fun _ => ?_)
                      · exact dn_lv [] rfl (hj128)
                      · refine dn_iload_n (pc := 122) 1 dX13_takes_122 rfl ?_
                        refine dn_bipush (pc := 123) (v := 11) dX13_takes_123 rfl ?_
                        refine dn_icmp_ne (pc := 125) 132 dX13_takes_125 rfl (fun _ => ?_) (fun _ => ?_)
                        · refine dn_iconst (pc := 132) (v := 0) dX13_takes_132 rfl ?_
                          exact dn_ret (Nat.le_of_ble_eq_true rfl) (Nat.le_of_ble_eq_true rfl) rfl dX13_takes_133
                        · exact dn_lv [] rfl (hj128)
                    · refine dn_tcase (pc := 1) 10 134 dX13_takes_1 (by decide) (by decide) rfl rfl (fun _ => ?_) (fun n1_10 => ?_)
                      · refine dn_iload_n (pc := 134) 1 dX13_takes_134 rfl ?_
                        refine dn_bipush (pc := 135) (v := 8) dX13_takes_135 rfl ?_
                        refine dn_icmp_eq (pc := 137) 152 dX13_takes_137 rfl (fun _ => ?_) (fun _ => ?_)
                        · exact dn_lv [] rfl (hj152)
                        · refine dn_iload_n (pc := 140) 1 dX13_takes_140 rfl ?_
                          refine dn_bipush (pc := 141) (v := 9) dX13_takes_141 rfl ?_
                          refine dn_icmp_eq (pc := 143) 152 dX13_takes_143 rfl (fun _ => ?_) (fun _ => ?_)
                          · exact dn_lv [] rfl (hj152)
                          · refine dn_iload_n (pc := 146) 1 dX13_takes_146 rfl ?_
                            refine dn_bipush (pc := 147) (v := 11) dX13_takes_147 rfl ?_
                            refine dn_icmp_ne (pc := 149) 156 dX13_takes_149 rfl (fun _ => ?_) (fun _ => ?_)
                            · refine dn_iconst (pc := 156) (v := 0) dX13_takes_156 rfl ?_
                              exact dn_ret (Nat.le_of_ble_eq_true rfl) (Nat.le_of_ble_eq_true rfl) rfl dX13_takes_157
                            · exact dn_lv [] rfl (hj152)
                      · refine dn_tout (pc := 1) [0, 1, 2, 3, 4, 5, 6, 7, 8, 9, 10] 158 dX13_takes_1 (List.forall_mem_cons.mpr ⟨n1_0, (List.forall_mem_cons.mpr ⟨n1_1, (List.forall_mem_cons.mpr ⟨n1_2, (List.forall_mem_cons.mpr ⟨n1_3, (List.forall_mem_cons.mpr ⟨n1_4, (List.forall_mem_cons.mpr ⟨n1_5, (List.forall_mem_cons.mpr ⟨n1_6, (List.forall_mem_cons.mpr ⟨n1_7, (List.forall_mem_cons.mpr ⟨n1_8, (List.forall_mem_cons.mpr ⟨n1_9, (List.forall_mem_cons.mpr ⟨n1_10, (fun _ h => absurd h List.not_mem_nil)⟩)⟩)⟩)⟩)⟩)⟩)⟩)⟩)⟩)⟩)⟩) (by decide) rfl ?_
                        refine dn_iload_n (pc := 158) 1 dX13_takes_158 rfl ?_
                        refine dn_bipush (pc := 159) (v := 10) dX13_takes_159 rfl ?_
                        refine dn_icmp_eq (pc := 161) 170 dX13_takes_161 rfl (fun _ => ?_) (fun _ => ?_)
                        · exact dn_lv [] rfl (hj170)
                        · refine dn_iload_n (pc := 164) 1 dX13_takes_164 rfl ?_
                          refine dn_bipush (pc := 165) (v := 11) dX13_takes_165 rfl ?_
                          refine dn_icmp_ne (pc := 167) 174 dX13_takes_167 rfl (fun _ => ?_) (fun _ => ?_)
                          · refine dn_iconst (pc := 174) (v := 0) dX13_takes_174 rfl ?_
                            exact dn_ret (Nat.le_of_ble_eq_true rfl) (Nat.le_of_ble_eq_true rfl) rfl dX13_takes_175
                          · exact dn_lv [] rfl (hj170)
abbrev rmX13_isReadable : Room := { frames := 2, cells := 0, slots := 0, locals := 43 }
def fX13_isReadable (r0 : Option Nat) (p1 : Int32) (p2 : Int32) : dnM Bool :=
  dnB (dnGR r0 11 6) fun v1 =>
  dnB (dnAI v1 100 p1) fun v2 =>
  dnB (fX13_isPlain v2) fun v3 =>
  if v3 = true then
  (dnB (dnGR r0 11 6) fun v4 =>
  dnB (dnAI v4 100 p1) fun v5 =>
  dnB (fX13_takes p2 v5) fun v6 =>
  if v6 = true then
  (dnP true)
  else
  (dnP false))
  else
  (dnP false)
abbrev jX13_isReadable (w : dnWd) (x : dnX) (b : Nat) := dnD w x b (fun _ => True) cX13_isReadable RX13 3 rmX13_isReadable "isReadable" eZ
set_option maxHeartbeats 4000000 in
set_option maxRecDepth 100000 in
theorem mX13_isReadable (w : dnWd) (x : dnX) (b : Nat) (r0 : Option Nat) (p1 : Int32) (p2 : Int32) : dnMt w x b yX13_isReadable cX13_isReadable 3 (some .boolean) rmX13_isReadable eZ [dnV b r0, .int p1, .int p2] (fX13_isReadable r0 p1 p2) := by
  have hlv : lv_args 0 [dnV b r0, .int p1, .int p2] = [(0, dnV b r0), (1, .int p1), (2, .int p2)] := by cases r0 <;> rfl
  refine dn_mt (by decide) roZ (by cases r0 <;> exact (Nat.le_of_ble_eq_true rfl)) ?_
  rw [hlv]
  refine dn_top ?_
  show jX13_isReadable w x b 0 0 0 _ [] (dnB _ dnP)
  unfold fX13_isReadable
  refine dn_aload_n (pc := 0) r0 0 dX13_isReadable_0 rfl ?_
  refine dn_getR (pc := 1) r0 lRX13_23 dX13_isReadable_1 (fun v1 => ?_)
  refine dn_iload_n (pc := 4) 1 dX13_isReadable_4 rfl ?_
  refine dn_iald (pc := 5) v1 dX13_isReadable_5 (fun v2 => ?_)
  refine dn_callS0Z (pc := 6) [.int v2]  kRX13_209 (mX13_isPlain w x b v2) rfl rfl (Nat.le_of_ble_eq_true rfl) ⟨(Nat.le_of_ble_eq_true rfl), (Nat.le_of_ble_eq_true rfl)⟩ ⟨rfl, rfl, (Nat.le_of_ble_eq_true rfl), (Nat.le_of_ble_eq_true rfl)⟩ dX13_isReadable_6 (fun v3 => ?_)
  refine dn_ifz_eq (pc := 9) 29 dX13_isReadable_9 rfl (fun _ => ?_) (fun _ => ?_)
  · refine dn_iload_n (pc := 12) 2 dX13_isReadable_12 rfl ?_
    refine dn_aload_n (pc := 13) r0 0 dX13_isReadable_13 rfl ?_
    refine dn_getR (pc := 14) r0 lRX13_23 dX13_isReadable_14 (fun v4 => ?_)
    refine dn_iload_n (pc := 17) 1 dX13_isReadable_17 rfl ?_
    refine dn_iald (pc := 18) v4 dX13_isReadable_18 (fun v5 => ?_)
    refine dn_callS0Z (pc := 19) [.int p2, .int v5]  kRX13_205 (mX13_takes w x b p2 v5) rfl rfl (Nat.le_of_ble_eq_true rfl) ⟨(Nat.le_of_ble_eq_true rfl), (Nat.le_of_ble_eq_true rfl)⟩ ⟨rfl, rfl, (Nat.le_of_ble_eq_true rfl), (Nat.le_of_ble_eq_true rfl)⟩ dX13_isReadable_19 (fun v6 => ?_)
    refine dn_ifz_eq (pc := 22) 29 dX13_isReadable_22 rfl (fun _ => ?_) (fun _ => ?_)
    · refine dn_iconst (pc := 25) (v := 1) dX13_isReadable_25 rfl ?_
      refine dn_goto (pc := 26) 30 dX13_isReadable_26 rfl ?_
      exact dn_ret (Nat.le_of_ble_eq_true rfl) (Nat.le_of_ble_eq_true rfl) rfl dX13_isReadable_30
    · refine dn_iconst (pc := 29) (v := 0) dX13_isReadable_29 rfl ?_
      exact dn_ret (Nat.le_of_ble_eq_true rfl) (Nat.le_of_ble_eq_true rfl) rfl dX13_isReadable_30
  · refine dn_iconst (pc := 29) (v := 0) dX13_isReadable_29 rfl ?_
    exact dn_ret (Nat.le_of_ble_eq_true rfl) (Nat.le_of_ble_eq_true rfl) rfl dX13_isReadable_30
abbrev rmX13_isBlock : Room := { frames := 3, cells := 0, slots := 0, locals := 67 }
def fX13_isBlock_b47 (c0 : Option Nat) (c1 : Int32) (c3 : Int32) (c4 : Int32) (c5 : Int32) (c6 : Int32) (s47 : Int32) : dnM ((Int32) ⊕ (Unit)) :=
  if c5 < s47 then
  (dnP (.inr ()))
  else
  (dnB (dnGL c0 11 27) fun v4 =>
  dnB (dnGR c0 11 10) fun v5 =>
  dnB (dnCv c0 11 (fX13_held c0 c1 c6)) fun v6 =>
  dnB (dnAL v5 102 ((12 * v6) + s47)) fun v7 =>
  dnB (dnPL c0 11 27 (v4 + v7)) fun _ =>
  dnP (.inl (s47 + 1)))
def fX13_isBlock_b8 (c0 : Option Nat) (c1 : Int32) (c3 : Int32) (c4 : Int32) (c5 : Int32) (s8 : Int32) : dnM ((Int32) ⊕ ((Unit) ⊕ Bool)) :=
  if c3 < s8 then
  (dnP (.inr (.inl ())))
  else
  (dnB (dnCv c0 11 (fX13_hasCell c0 c1 s8 c5)) fun v1 =>
  if v1 = true then
  (dnB (dnCv c0 11 (fX13_held c0 c1 s8)) fun v2 =>
  dnB (dnCv c0 11 (fX13_isReadable c0 v2 4)) fun v3 =>
  if v3 = true then
  (dnB (dnIt 1000 (fX13_isBlock_b47 c0 c1 c3 c4 c5 s8) c4) fun q47 =>
  dnP (.inl (s8 + 1)))
  else
  (dnP (.inr (.inr false))))
  else
  (dnP (.inr (.inr false))))
def fX13_isBlock (r0 : Option Nat) (p1 : Int32) (p2 : Int32) (p3 : Int32) (p4 : Int32) (p5 : Int32) : dnM Bool :=
  dnB (dnPL r0 11 27 0) fun _ =>
  dnB (dnIt 1000 (fX13_isBlock_b8 r0 p1 p3 p4 p5) p2) fun q_ => q_.elim (fun q8 => dnP true) (fun v_ => dnP v_)
abbrev jX13_isBlock (w : dnWd) (x : dnX) (b : Nat) := dnD w x b (fun _ => True) cX13_isBlock RX13 8 rmX13_isBlock "isBlock" eZ
set_option maxHeartbeats 4000000 in
set_option maxRecDepth 100000 in
theorem mX13_isBlock (w : dnWd) (x : dnX) (b : Nat) (r0 : Option Nat) (p1 : Int32) (p2 : Int32) (p3 : Int32) (p4 : Int32) (p5 : Int32) : dnMt w x b yX13_isBlock cX13_isBlock 8 (some .boolean) rmX13_isBlock eZ [dnV b r0, .int p1, .int p2, .int p3, .int p4, .int p5] (fX13_isBlock r0 p1 p2 p3 p4 p5) := by
  have hlv : lv_args 0 [dnV b r0, .int p1, .int p2, .int p3, .int p4, .int p5] = [(0, dnV b r0), (1, .int p1), (2, .int p2), (3, .int p3), (4, .int p4), (5, .int p5)] := by cases r0 <;> rfl
  refine dn_mt (by decide) roZ (by cases r0 <;> exact (Nat.le_of_ble_eq_true rfl)) ?_
  rw [hlv]
  refine dn_top ?_
  show jX13_isBlock w x b 0 0 0 _ [] (dnB _ dnP)
  unfold fX13_isBlock
  refine dn_aload_n (pc := 0) r0 0 dX13_isBlock_0 rfl ?_
  refine dn_lconst (pc := 1) (v := 0) dX13_isBlock_1 rfl ?_
  refine dn_putL (pc := 2) r0 lRX13_439 dX13_isBlock_2 ?_
  refine dn_iload_n (pc := 5) 2 dX13_isBlock_5 rfl ?_
  refine dn_istore (pc := 6) dX13_isBlock_6 (Nat.le_of_ble_eq_true rfl) (dnKp_nb 5 rfl rfl rfl (dnKp_of (lv2 := [(0, dnV b r0), (1, .int p1), (3, .int p3), (4, .int p4)]) [0, 1, 3, 4] rfl rfl)) ?_
  refine dn_assoc ?_
  refine dn_lv [2, 3, 4, 5, 1, 0] (lv2 := (fun s => [(0, dnV b r0), (1, .int p1), (3, .int p3), (4, .int p4), (5, .int p5), (6, .int s)]) p2) rfl ?_
  refine dn_loopR (pc := 8) (body := fX13_isBlock_b8 r0 p1 p3 p4 p5) 93 (fun s => [(0, dnV b r0), (1, .int p1), (3, .int p3), (4, .int p4), (5, .int p5), (6, .int s)]) (fun q => []) (fun s8 K8 E8 hK8 hE8 hR8 => ?_) (dn_rt (Nat.le_of_ble_eq_true rfl) (Nat.le_of_ble_eq_true rfl) (fun _ => rfl)) (fun q8 => ?_) 1000 p2
  · unfold fX13_isBlock_b8
    refine dn_iload (pc := 8) 5 dX13_isBlock_8 rfl ?_
    refine dn_iload_n (pc := 10) 2 dX13_isBlock_10 rfl ?_
    refine dn_icmp_gt (pc := 11) 93 dX13_isBlock_11 rfl (fun _ => ?_) (fun _ => ?_)
    · refine dn_leaf ?_
      exact dn_lv [] rfl (hE8 ())
    · refine dn_aload_n (pc := 14) r0 0 dX13_isBlock_14 rfl ?_
      refine dn_iload_n (pc := 15) 1 dX13_isBlock_15 rfl ?_
      refine dn_iload (pc := 16) 5 dX13_isBlock_16 rfl ?_
      refine dn_iload (pc := 18) 4 dX13_isBlock_18 rfl ?_
      refine dn_callV0Z (pc := 20) [.int p1, .int s8, .int p5] r0 kRX13_348 (mX13_hasCell w x b r0 p1 s8 p5) rfl rfl (Nat.le_of_ble_eq_true rfl) ⟨(Nat.le_of_ble_eq_true rfl), (Nat.le_of_ble_eq_true rfl)⟩ ⟨rfl, rfl, (Nat.le_of_ble_eq_true rfl), (Nat.le_of_ble_eq_true rfl)⟩ dX13_isBlock_20 (fun v1 => ?_)
      refine dn_ifz_eq (pc := 23) 41 dX13_isBlock_23 rfl (fun _ => ?_) (fun _ => ?_)
      · refine dn_aload_n (pc := 26) r0 0 dX13_isBlock_26 rfl ?_
        refine dn_aload_n (pc := 27) r0 0 dX13_isBlock_27 rfl ?_
        refine dn_iload_n (pc := 28) 1 dX13_isBlock_28 rfl ?_
        refine dn_iload (pc := 29) 5 dX13_isBlock_29 rfl ?_
        refine dn_callV0I (pc := 31) [.int p1, .int s8] r0 kRX13_128 (mX13_held w x b r0 p1 s8) rfl rfl (Nat.le_of_ble_eq_true rfl) ⟨(Nat.le_of_ble_eq_true rfl), (Nat.le_of_ble_eq_true rfl)⟩ ⟨rfl, rfl, (Nat.le_of_ble_eq_true rfl), (Nat.le_of_ble_eq_true rfl)⟩ dX13_isBlock_31 (fun v2 => ?_)
        refine dn_iconst (pc := 34) (v := 4) dX13_isBlock_34 rfl ?_
        refine dn_callV0Z (pc := 35) [.int v2, .int 4] r0 kRX13_233 (mX13_isReadable w x b r0 v2 4) rfl rfl (Nat.le_of_ble_eq_true rfl) ⟨(Nat.le_of_ble_eq_true rfl), (Nat.le_of_ble_eq_true rfl)⟩ ⟨rfl, rfl, (Nat.le_of_ble_eq_true rfl), (Nat.le_of_ble_eq_true rfl)⟩ dX13_isBlock_35 (fun v3 => ?_)
        refine dn_ifz_ne (pc := 38) 43 dX13_isBlock_38 rfl (fun _ => ?_) (fun _ => ?_)
        · refine dn_iload (pc := 43) 3 dX13_isBlock_43 rfl ?_
          refine dn_istore (pc := 45) dX13_isBlock_45 (Nat.le_of_ble_eq_true rfl) (dnKp_nb 5 rfl rfl rfl (dnKp_of (lv2 := [(0, dnV b r0), (1, .int p1), (3, .int p3), (4, .int p4), (5, .int p5)]) [0, 1, 2, 3, 4] rfl rfl)) ?_
          refine dn_assoc ?_
          refine dn_lv [2, 3, 4, 5, 6, 1, 0] (lv2 := (fun s => [(0, dnV b r0), (1, .int p1), (3, .int p3), (4, .int p4), (5, .int p5), (6, .int s8), (7, .int s)]) p4) rfl ?_
          refine dn_loopE (pc := 47) (body := fX13_isBlock_b47 r0 p1 p3 p4 p5 s8) 87 (fun s => [(0, dnV b r0), (1, .int p1), (3, .int p3), (4, .int p4), (5, .int p5), (6, .int s8), (7, .int s)]) (fun q => [(0, dnV b r0), (1, .int p1), (3, .int p3), (4, .int p4), (5, .int p5), (6, .int s8)]) (fun s47 K47 E47 hK47 hE47 => ?_) (fun q47 => ?_) 1000 p4
          · unfold fX13_isBlock_b47
            refine dn_iload (pc := 47) 6 dX13_isBlock_47 rfl ?_
            refine dn_iload (pc := 49) 4 dX13_isBlock_49 rfl ?_
            refine dn_icmp_gt (pc := 51) 87 dX13_isBlock_51 rfl (fun _ => ?_) (fun _ => ?_)
            · refine dn_leaf ?_
              exact dn_lv [0, 1, 2, 3, 4, 5] rfl (hE47 ())
            · refine dn_aload_n (pc := 54) r0 0 dX13_isBlock_54 rfl ?_
              refine dn_dup (pc := 55) dX13_isBlock_55 (dn_cat b _) ?_
              refine dn_getL (pc := 56) r0 lRX13_439 dX13_isBlock_56 (fun v4 => ?_)
              refine dn_aload_n (pc := 59) r0 0 dX13_isBlock_59 rfl ?_
              refine dn_getR (pc := 60) r0 lRX13_35 dX13_isBlock_60 (fun v5 => ?_)
              refine dn_bipush (pc := 63) (v := 12) dX13_isBlock_63 rfl ?_
              refine dn_aload_n (pc := 65) r0 0 dX13_isBlock_65 rfl ?_
              refine dn_iload_n (pc := 66) 1 dX13_isBlock_66 rfl ?_
              refine dn_iload (pc := 67) 5 dX13_isBlock_67 rfl ?_
              refine dn_callV0I (pc := 69) [.int p1, .int s8] r0 kRX13_128 (mX13_held w x b r0 p1 s8) rfl rfl (Nat.le_of_ble_eq_true rfl) ⟨(Nat.le_of_ble_eq_true rfl), (Nat.le_of_ble_eq_true rfl)⟩ ⟨rfl, rfl, (Nat.le_of_ble_eq_true rfl), (Nat.le_of_ble_eq_true rfl)⟩ dX13_isBlock_69 (fun v6 => ?_)
              refine dn_imul (pc := 72) dX13_isBlock_72 ?_
              refine dn_iload (pc := 73) 6 dX13_isBlock_73 rfl ?_
              refine dn_iadd (pc := 75) dX13_isBlock_75 ?_
              refine dn_lald (pc := 76) v5 dX13_isBlock_76 (fun v7 => ?_)
              refine dn_ladd (pc := 77) dX13_isBlock_77 ?_
              refine dn_putL (pc := 78) r0 lRX13_439 dX13_isBlock_78 ?_
              refine dn_iinc (pc := 81) (s47 + 1) 6 dX13_isBlock_81 rfl rfl (Nat.le_of_ble_eq_true rfl) (dnKp_nb 5 rfl rfl rfl (dnKp_of (lv2 := [(0, dnV b r0), (1, .int p1), (3, .int p3), (4, .int p4), (5, .int p5)]) [0, 1, 2, 3, 4] rfl rfl)) ?_
              refine dn_goto (pc := 84) 47 dX13_isBlock_84 rfl ?_
              refine dn_leaf ?_
              exact dn_lv [2, 3, 4, 5, 6, 1, 0] rfl (hK47 (s47 + 1))
          · refine dn_iinc (pc := 87) (s8 + 1) 5 dX13_isBlock_87 rfl rfl (Nat.le_of_ble_eq_true rfl) (dnKp_nb 4 rfl rfl rfl (dnKp_of (lv2 := [(0, dnV b r0), (1, .int p1), (3, .int p3), (4, .int p4)]) [0, 1, 2, 3] rfl rfl)) ?_
            refine dn_goto (pc := 90) 8 dX13_isBlock_90 rfl ?_
            refine dn_leaf ?_
            exact dn_lv [2, 3, 4, 5, 1, 0] rfl (hK8 (s8 + 1))
        · refine dn_iconst (pc := 41) (v := 0) dX13_isBlock_41 rfl ?_
          refine dn_leaf ?_
          exact hR8 false _ _ _ rfl dX13_isBlock_42
      · refine dn_iconst (pc := 41) (v := 0) dX13_isBlock_41 rfl ?_
        refine dn_leaf ?_
        exact hR8 false _ _ _ rfl dX13_isBlock_42
  · refine dn_iconst (pc := 93) (v := 1) dX13_isBlock_93 rfl ?_
    exact dn_ret (Nat.le_of_ble_eq_true rfl) (Nat.le_of_ble_eq_true rfl) rfl dX13_isBlock_94
abbrev rmX13_tells : Room := { frames := 0, cells := 0, slots := 0, locals := 0 }
def fX13_tells (r0 : Option Nat) (p1 : Int64) (p3 : Int32) : dnM Int32 :=
  dnB (dnPL r0 11 1 p1) fun _ =>
  dnP p3
abbrev jX13_tells (w : dnWd) (x : dnX) (b : Nat) := dnD w x b (fun _ => True) cX13_tells RX13 4 rmX13_tells "tells" eI
set_option maxHeartbeats 4000000 in
set_option maxRecDepth 100000 in
theorem mX13_tells (w : dnWd) (x : dnX) (b : Nat) (r0 : Option Nat) (p1 : Int64) (p3 : Int32) : dnMt w x b yX13_tells cX13_tells 4 (some .int) rmX13_tells eI [dnV b r0, .long p1, .int p3] (fX13_tells r0 p1 p3) := by
  have hlv : lv_args 0 [dnV b r0, .long p1, .int p3] = [(0, dnV b r0), (1, .long p1), (3, .int p3)] := by cases r0 <;> rfl
  refine dn_mt (by decide) roI (by cases r0 <;> exact (Nat.le_of_ble_eq_true rfl)) ?_
  rw [hlv]
  refine dn_top ?_
  show jX13_tells w x b 0 0 0 _ [] (dnB _ dnP)
  unfold fX13_tells
  refine dn_aload_n (pc := 0) r0 0 dX13_tells_0 rfl ?_
  refine dn_lload_n (pc := 1) 1 dX13_tells_1 rfl ?_
  refine dn_putL (pc := 2) r0 lRX13_116 dX13_tells_2 ?_
  refine dn_iload_n (pc := 5) 2 dX13_tells_5 rfl ?_
  exact dn_ret (Nat.le_of_ble_eq_true rfl) (Nat.le_of_ble_eq_true rfl) rfl dX13_tells_6
abbrev rmX13_blockAnswer : Room := { frames := 4, cells := 0, slots := 0, locals := 94 }
def fX13_blockAnswer_j135 (l0 : Option Nat) (l1 : Int32) (l2 : Int32) (l3 : Int64) (l5 : Int32) (l6 : Int32) (l7 : Int32) (l8 : Int32) : dnM ((Int32 × Int64 × Int32) ⊕ (Int32 × Int64)) :=
  dnP (.inl (l2, l3, (l8 + 1)))
def fX13_blockAnswer_j107 (l0 : Option Nat) (l1 : Int32) (l5 : Int32) (l6 : Int32) (l7 : Int32) (l8 : Int32) : dnM ((Int32 × Int64 × Int32) ⊕ (Int32 × Int64)) :=
  dnB (dnGL l0 11 27) fun v8 =>
  fX13_blockAnswer_j135 l0 l1 ((((1000000 * l5) + (10000 * l6)) + (100 * l7)) + l8) v8 l5 l6 l7 l8
def fX13_blockAnswer_b69 (c0 : Option Nat) (c1 : Int32) (c5 : Int32) (c6 : Int32) (c7 : Int32) (s69 : Int32 × Int64 × Int32) : dnM ((Int32 × Int64 × Int32) ⊕ (Int32 × Int64)) :=
  if 12 ≤ s69.2.2 then
  (dnP (.inr (s69.1, s69.2.1)))
  else
  (dnB (dnCv c0 11 (fX13_isBlock c0 c1 c5 c7 c6 s69.2.2)) fun v9 =>
  if v9 = true then
  (if s69.1 = (-9) then
  (fX13_blockAnswer_j107 c0 c1 c5 c6 c7 s69.2.2)
  else
  (dnB (dnGL c0 11 27) fun v10 =>
  if (lg_cmp v10 s69.2.1) ≤ 0 then
  (fX13_blockAnswer_j135 c0 c1 s69.1 s69.2.1 c5 c6 c7 s69.2.2)
  else
  (fX13_blockAnswer_j107 c0 c1 c5 c6 c7 s69.2.2)))
  else
  (fX13_blockAnswer_j135 c0 c1 s69.1 s69.2.1 c5 c6 c7 s69.2.2))
def fX13_blockAnswer_b54 (c0 : Option Nat) (c1 : Int32) (c5 : Int32) (c6 : Int32) (s54 : Int32 × Int64 × Int32) : dnM ((Int32 × Int64 × Int32) ⊕ (Int32 × Int64)) :=
  dnB (dnGR c0 11 4) fun v6 =>
  dnB (dnAI v6 100 c1) fun v7 =>
  if v7 ≤ s54.2.2 then
  (dnP (.inr (s54.1, s54.2.1)))
  else
  (dnB (dnIt 1000 (fX13_blockAnswer_b69 c0 c1 c5 c6 s54.2.2) (s54.1, s54.2.1, c6)) fun q69 =>
  dnP (.inl (q69.1, q69.2, (s54.2.2 + 1))))
def fX13_blockAnswer_b43 (c0 : Option Nat) (c1 : Int32) (c5 : Int32) (s43 : Int32 × Int64 × Int32) : dnM ((Int32 × Int64 × Int32) ⊕ (Int32 × Int64)) :=
  if 12 ≤ s43.2.2 then
  (dnP (.inr (s43.1, s43.2.1)))
  else
  (dnB (dnIt 1000 (fX13_blockAnswer_b54 c0 c1 c5 s43.2.2) (s43.1, s43.2.1, c5)) fun q54 =>
  dnP (.inl (q54.1, q54.2, (s43.2.2 + 1))))
def fX13_blockAnswer_b29 (c0 : Option Nat) (c1 : Int32) (s29 : Int32 × Int64 × Int32) : dnM ((Int32 × Int64 × Int32) ⊕ (Int32 × Int64)) :=
  dnB (dnGR c0 11 4) fun v4 =>
  dnB (dnAI v4 100 c1) fun v5 =>
  if v5 ≤ s29.2.2 then
  (dnP (.inr (s29.1, s29.2.1)))
  else
  (dnB (dnIt 1000 (fX13_blockAnswer_b43 c0 c1 s29.2.2) (s29.1, s29.2.1, 0)) fun q43 =>
  dnP (.inl (q43.1, q43.2, (s29.2.2 + 1))))
def fX13_blockAnswer (r0 : Option Nat) (p1 : Int32) : dnM Int32 :=
  dnB (fX13_isGrid p1) fun v1 =>
  if v1 = true then
  (dnB (dnGR r0 11 4) fun v2 =>
  dnB (dnAI v2 100 p1) fun v3 =>
  if 0 ≤ v3 then
  (dnB (dnIt 1000 (fX13_blockAnswer_b29 r0 p1) ((-9), 0, 0)) fun q29 =>
  if ¬ q29.1 = (-9) then
  (dnB (dnCv r0 11 (fX13_tells r0 q29.2 q29.1)) fun v11 =>
  dnP v11)
  else
  (dnP (-9)))
  else
  (dnP (-2)))
  else
  (dnP (-1))
abbrev jX13_blockAnswer (w : dnWd) (x : dnX) (b : Nat) := dnD w x b (fun _ => True) cX13_blockAnswer RX13 9 rmX13_blockAnswer "blockAnswer" eI
set_option maxHeartbeats 4000000 in
set_option maxRecDepth 100000 in
theorem mX13_blockAnswer (w : dnWd) (x : dnX) (b : Nat) (r0 : Option Nat) (p1 : Int32) : dnMt w x b yX13_blockAnswer cX13_blockAnswer 9 (some .int) rmX13_blockAnswer eI [dnV b r0, .int p1] (fX13_blockAnswer r0 p1) := by
  have hlv : lv_args 0 [dnV b r0, .int p1] = [(0, dnV b r0), (1, .int p1)] := by cases r0 <;> rfl
  refine dn_mt (by decide) roI (by cases r0 <;> exact (Nat.le_of_ble_eq_true rfl)) ?_
  rw [hlv]
  refine dn_top ?_
  show jX13_blockAnswer w x b 0 0 0 _ [] (dnB _ dnP)
  unfold fX13_blockAnswer
  refine dn_iload_n (pc := 0) 1 dX13_blockAnswer_0 rfl ?_
  refine dn_callS0Z (pc := 1) [.int p1]  kRX13_134 (mX13_isGrid w x b p1) rfl rfl (Nat.le_of_ble_eq_true rfl) ⟨(Nat.le_of_ble_eq_true rfl), (Nat.le_of_ble_eq_true rfl)⟩ ⟨rfl, rfl, (Nat.le_of_ble_eq_true rfl), (Nat.le_of_ble_eq_true rfl)⟩ dX13_blockAnswer_1 (fun v1 => ?_)
  refine dn_ifz_ne (pc := 4) 9 dX13_blockAnswer_4 rfl (fun _ => ?_) (fun _ => ?_)
  · refine dn_aload_n (pc := 9) r0 0 dX13_blockAnswer_9 rfl ?_
    refine dn_getR (pc := 10) r0 lRX13_17 dX13_blockAnswer_10 (fun v2 => ?_)
    refine dn_iload_n (pc := 13) 1 dX13_blockAnswer_13 rfl ?_
    refine dn_iald (pc := 14) v2 dX13_blockAnswer_14 (fun v3 => ?_)
    refine dn_if_ge (pc := 15) 21 dX13_blockAnswer_15 rfl (fun _ => ?_) (fun _ => ?_)
    · refine dn_bipush (pc := 21) (v := -9) dX13_blockAnswer_21 rfl ?_
      refine dn_istore_n (pc := 23) dX13_blockAnswer_23 (Nat.le_of_ble_eq_true rfl) (dnKp_nb 1 rfl rfl rfl (dnKp_of (lv2 := [(0, dnV b r0)]) [0] rfl rfl)) ?_
      refine dn_lconst (pc := 24) (v := 0) dX13_blockAnswer_24 rfl ?_
      refine dn_lstore_n (pc := 25) dX13_blockAnswer_25 (Nat.le_of_ble_eq_true rfl) (dnKp_nb 0 rfl rfl rfl (dnKp_of (lv2 := [(1, .int p1), (0, dnV b r0)]) [1, 2] rfl rfl)) ?_
      refine dn_iconst (pc := 26) (v := 0) dX13_blockAnswer_26 rfl ?_
      refine dn_istore (pc := 27) dX13_blockAnswer_27 (Nat.le_of_ble_eq_true rfl) (dnKp_of (lv2 := [(3, .long 0), (2, .int (-9)), (1, .int p1), (0, dnV b r0)]) [0, 1, 2, 3] rfl rfl) ?_
      refine dn_assoc ?_
      refine dn_lv [4, 3, 2, 1, 0] (lv2 := (fun s => [(0, dnV b r0), (1, .int p1), (2, .int s.1), (3, .long s.2.1), (5, .int s.2.2)]) ((-9), 0, 0)) rfl ?_
      refine dn_loopE (pc := 29) (body := fX13_blockAnswer_b29 r0 p1) 159 (fun s => [(0, dnV b r0), (1, .int p1), (2, .int s.1), (3, .long s.2.1), (5, .int s.2.2)]) (fun q => [(0, dnV b r0), (2, .int q.1), (3, .long q.2)]) (fun s29 K29 E29 hK29 hE29 => ?_) (fun q29 => ?_) 1000 ((-9), 0, 0)
      · unfold fX13_blockAnswer_b29
        refine dn_iload (pc := 29) 4 dX13_blockAnswer_29 rfl ?_
        refine dn_aload_n (pc := 31) r0 0 dX13_blockAnswer_31 rfl ?_
        refine dn_getR (pc := 32) r0 lRX13_17 dX13_blockAnswer_32 (fun v4 => ?_)
        refine dn_iload_n (pc := 35) 1 dX13_blockAnswer_35 rfl ?_
        refine dn_iald (pc := 36) v4 dX13_blockAnswer_36 (fun v5 => ?_)
        refine dn_icmp_ge (pc := 37) 159 dX13_blockAnswer_37 rfl (fun _ => ?_) (fun _ => ?_)
        · refine dn_leaf ?_
          exact dn_lv [0, 2, 3] rfl (hE29 (s29.1, s29.2.1))
        · refine dn_iconst (pc := 40) (v := 0) dX13_blockAnswer_40 rfl ?_
          refine dn_istore (pc := 41) dX13_blockAnswer_41 (Nat.le_of_ble_eq_true rfl) (dnKp_nb 4 rfl rfl rfl (dnKp_of (lv2 := [(0, dnV b r0), (1, .int p1), (2, .int s29.1), (3, .long s29.2.1)]) [0, 1, 2, 3] rfl rfl)) ?_
          refine dn_assoc ?_
          refine dn_lv [2, 3, 4, 5, 1, 0] (lv2 := (fun s => [(0, dnV b r0), (1, .int p1), (2, .int s.1), (3, .long s.2.1), (5, .int s29.2.2), (6, .int s.2.2)]) (s29.1, s29.2.1, 0)) rfl ?_
          refine dn_loopE (pc := 43) (body := fX13_blockAnswer_b43 r0 p1 s29.2.2) 153 (fun s => [(0, dnV b r0), (1, .int p1), (2, .int s.1), (3, .long s.2.1), (5, .int s29.2.2), (6, .int s.2.2)]) (fun q => [(0, dnV b r0), (1, .int p1), (2, .int q.1), (3, .long q.2), (5, .int s29.2.2)]) (fun s43 K43 E43 hK43 hE43 => ?_) (fun q43 => ?_) 1000 (s29.1, s29.2.1, 0)
          · unfold fX13_blockAnswer_b43
            refine dn_iload (pc := 43) 5 dX13_blockAnswer_43 rfl ?_
            refine dn_bipush (pc := 45) (v := 12) dX13_blockAnswer_45 rfl ?_
            refine dn_icmp_ge (pc := 47) 153 dX13_blockAnswer_47 rfl (fun _ => ?_) (fun _ => ?_)
            · refine dn_leaf ?_
              exact dn_lv [0, 1, 2, 3, 4] rfl (hE43 (s43.1, s43.2.1))
            · refine dn_iload (pc := 50) 4 dX13_blockAnswer_50 rfl ?_
              refine dn_istore (pc := 52) dX13_blockAnswer_52 (Nat.le_of_ble_eq_true rfl) (dnKp_nb 5 rfl rfl rfl (dnKp_of (lv2 := [(0, dnV b r0), (1, .int p1), (2, .int s43.1), (3, .long s43.2.1), (5, .int s29.2.2)]) [0, 1, 2, 3, 4] rfl rfl)) ?_
              refine dn_assoc ?_
              refine dn_lv [2, 3, 4, 5, 6, 1, 0] (lv2 := (fun s => [(0, dnV b r0), (1, .int p1), (2, .int s.1), (3, .long s.2.1), (5, .int s29.2.2), (6, .int s43.2.2), (7, .int s.2.2)]) (s43.1, s43.2.1, s29.2.2)) rfl ?_
              refine dn_loopE (pc := 54) (body := fX13_blockAnswer_b54 r0 p1 s29.2.2 s43.2.2) 147 (fun s => [(0, dnV b r0), (1, .int p1), (2, .int s.1), (3, .long s.2.1), (5, .int s29.2.2), (6, .int s43.2.2), (7, .int s.2.2)]) (fun q => [(0, dnV b r0), (1, .int p1), (2, .int q.1), (3, .long q.2), (5, .int s29.2.2), (6, .int s43.2.2)]) (fun s54 K54 E54 hK54 hE54 => ?_) (fun q54 => ?_) 1000 (s43.1, s43.2.1, s29.2.2)
              · unfold fX13_blockAnswer_b54
                refine dn_iload (pc := 54) 6 dX13_blockAnswer_54 rfl ?_
                refine dn_aload_n (pc := 56) r0 0 dX13_blockAnswer_56 rfl ?_
                refine dn_getR (pc := 57) r0 lRX13_17 dX13_blockAnswer_57 (fun v6 => ?_)
                refine dn_iload_n (pc := 60) 1 dX13_blockAnswer_60 rfl ?_
                refine dn_iald (pc := 61) v6 dX13_blockAnswer_61 (fun v7 => ?_)
                refine dn_icmp_ge (pc := 62) 147 dX13_blockAnswer_62 rfl (fun _ => ?_) (fun _ => ?_)
                · refine dn_leaf ?_
                  exact dn_lv [0, 1, 2, 3, 4, 5] rfl (hE54 (s54.1, s54.2.1))
                · refine dn_iload (pc := 65) 5 dX13_blockAnswer_65 rfl ?_
                  refine dn_istore (pc := 67) dX13_blockAnswer_67 (Nat.le_of_ble_eq_true rfl) (dnKp_nb 6 rfl rfl rfl (dnKp_of (lv2 := [(0, dnV b r0), (1, .int p1), (2, .int s54.1), (3, .long s54.2.1), (5, .int s29.2.2), (6, .int s43.2.2)]) [0, 1, 2, 3, 4, 5] rfl rfl)) ?_
                  refine dn_assoc ?_
                  refine dn_lv [2, 3, 4, 5, 6, 7, 1, 0] (lv2 := (fun s => [(0, dnV b r0), (1, .int p1), (2, .int s.1), (3, .long s.2.1), (5, .int s29.2.2), (6, .int s43.2.2), (7, .int s54.2.2), (8, .int s.2.2)]) (s54.1, s54.2.1, s43.2.2)) rfl ?_
                  refine dn_loopE (pc := 69) (body := fX13_blockAnswer_b69 r0 p1 s29.2.2 s43.2.2 s54.2.2) 141 (fun s => [(0, dnV b r0), (1, .int p1), (2, .int s.1), (3, .long s.2.1), (5, .int s29.2.2), (6, .int s43.2.2), (7, .int s54.2.2), (8, .int s.2.2)]) (fun q => [(0, dnV b r0), (1, .int p1), (2, .int q.1), (3, .long q.2), (5, .int s29.2.2), (6, .int s43.2.2), (7, .int s54.2.2)]) (fun s69 K69 E69 hK69 hE69 => ?_) (fun q69 => ?_) 1000 (s54.1, s54.2.1, s43.2.2)
                  · unfold fX13_blockAnswer_b69
                    have hj135 : ∀ (l2 : Int32) (l3 : Int64) (l8 : Int32), jX13_blockAnswer w x b 135 0 0 [(0, dnV b r0), (1, .int p1), (2, .int l2), (3, .long l3), (5, .int s29.2.2), (6, .int s43.2.2), (7, .int s54.2.2), (8, .int l8)] [] (dnB (fX13_blockAnswer_j135 r0 p1 l2 l3 s29.2.2 s43.2.2 s54.2.2 l8) (dnKo K69 E69)) := by
                      intro l2 l3 l8
                      unfold fX13_blockAnswer_j135
                      refine dn_iinc (pc := 135) (l8 + 1) 7 dX13_blockAnswer_135 rfl rfl (Nat.le_of_ble_eq_true rfl) (dnKp_nb 6 rfl rfl rfl (dnKp_of (lv2 := [(0, dnV b r0), (1, .int p1), (2, .int l2), (3, .long l3), (5, .int s29.2.2), (6, .int s43.2.2)]) [0, 1, 2, 3, 4, 5] rfl rfl)) ?_
                      refine dn_goto (pc := 138) 69 dX13_blockAnswer_138 rfl ?_
                      refine dn_leaf ?_
                      exact dn_lv [2, 3, 4, 5, 6, 7, 1, 0] rfl (hK69 (l2, l3, (l8 + 1)))
                    have hj107 : ∀ (l8 : Int32), jX13_blockAnswer w x b 107 0 0 [(0, dnV b r0), (1, .int p1), (5, .int s29.2.2), (6, .int s43.2.2), (7, .int s54.2.2), (8, .int l8)] [] (dnB (fX13_blockAnswer_j107 r0 p1 s29.2.2 s43.2.2 s54.2.2 l8) (dnKo K69 E69)) := by
                      intro l8
                      unfold fX13_blockAnswer_j107
                      refine dn_ldcw (pc := 107) kRX13_446 dX13_blockAnswer_107 ?_
                      refine dn_iload (pc := 110) 2 dX13_blockAnswer_110 rfl ?_
                      refine dn_imul (pc := 112) dX13_blockAnswer_112 ?_
                      refine dn_sipush (pc := 113) (v := 10000) dX13_blockAnswer_113 rfl ?_
                      refine dn_iload (pc := 116) 3 dX13_blockAnswer_116 rfl ?_
                      refine dn_imul (pc := 118) dX13_blockAnswer_118 ?_
                      refine dn_iadd (pc := 119) dX13_blockAnswer_119 ?_
                      refine dn_bipush (pc := 120) (v := 100) dX13_blockAnswer_120 rfl ?_
                      refine dn_iload (pc := 122) 4 dX13_blockAnswer_122 rfl ?_
                      refine dn_imul (pc := 124) dX13_blockAnswer_124 ?_
                      refine dn_iadd (pc := 125) dX13_blockAnswer_125 ?_
                      refine dn_iload (pc := 126) 5 dX13_blockAnswer_126 rfl ?_
                      refine dn_iadd (pc := 128) dX13_blockAnswer_128 ?_
                      refine dn_istore_n (pc := 129) dX13_blockAnswer_129 (Nat.le_of_ble_eq_true rfl) (dnKp_nb 1 rfl rfl rfl (dnKp_of (lv2 := [(0, dnV b r0), (5, .int s29.2.2), (6, .int s43.2.2), (7, .int s54.2.2), (8, .int l8)]) [0, 2, 3, 4, 5] rfl rfl)) ?_
                      refine dn_aload_n (pc := 130) r0 2 dX13_blockAnswer_130 rfl ?_
                      refine dn_getL (pc := 131) r0 lRX13_439 dX13_blockAnswer_131 (fun v8 => ?_)
                      refine dn_lstore_n (pc := 134) dX13_blockAnswer_134 (Nat.le_of_ble_eq_true rfl) (dnKp_nb 0 rfl rfl rfl (dnKp_of (lv2 := [(1, .int p1), (0, dnV b r0), (5, .int s29.2.2), (6, .int s43.2.2), (7, .int s54.2.2), (8, .int l8)]) [1, 2, 3, 4, 5, 6] rfl rfl)) ?_
                      exact dn_lv [3, 2, 1, 0, 4, 5, 6, 7] rfl (hj135 ((((1000000 * s29.2.2) + (10000 * s43.2.2)) + (100 * s54.2.2)) + l8) v8 l8)
                    refine dn_iload (pc := 69) 7 dX13_blockAnswer_69 rfl ?_
                    refine dn_bipush (pc := 71) (v := 12) dX13_blockAnswer_71 rfl ?_
                    refine dn_icmp_ge (pc := 73) 141 dX13_blockAnswer_73 rfl (fun _ => ?_) (fun _ => ?_)
                    · refine dn_leaf ?_
                      exact dn_lv [0, 1, 2, 3, 4, 5, 6] rfl (hE69 (s69.1, s69.2.1))
                    · refine dn_aload_n (pc := 76) r0 0 dX13_blockAnswer_76 rfl ?_
                      refine dn_iload_n (pc := 77) 1 dX13_blockAnswer_77 rfl ?_
                      refine dn_iload (pc := 78) 4 dX13_blockAnswer_78 rfl ?_
                      refine dn_iload (pc := 80) 6 dX13_blockAnswer_80 rfl ?_
                      refine dn_iload (pc := 82) 5 dX13_blockAnswer_82 rfl ?_
                      refine dn_iload (pc := 84) 7 dX13_blockAnswer_84 rfl ?_
                      refine dn_callV0Z (pc := 86) [.int p1, .int s29.2.2, .int s54.2.2, .int s43.2.2, .int s69.2.2] r0 kRX13_442 (mX13_isBlock w x b r0 p1 s29.2.2 s54.2.2 s43.2.2 s69.2.2) rfl rfl (Nat.le_of_ble_eq_true rfl) ⟨(Nat.le_of_ble_eq_true rfl), (Nat.le_of_ble_eq_true rfl)⟩ ⟨rfl, rfl, (Nat.le_of_ble_eq_true rfl), (Nat.le_of_ble_eq_true rfl)⟩ dX13_blockAnswer_86 (fun v9 => ?_)
                      refine dn_ifz_eq (pc := 89) 135 dX13_blockAnswer_89 rfl (fun _ => ?_) (fun _ => ?_)
                      · refine dn_iload_n (pc := 92) 2 dX13_blockAnswer_92 rfl ?_
                        refine dn_bipush (pc := 93) (v := -9) dX13_blockAnswer_93 rfl ?_
                        refine dn_icmp_eq (pc := 95) 107 dX13_blockAnswer_95 rfl (fun _ => ?_) (fun _ => ?_)
                        · exact dn_lv [0, 1, 4, 5, 6, 7] rfl (hj107 s69.2.2)
                        · refine dn_aload_n (pc := 98) r0 0 dX13_blockAnswer_98 rfl ?_
                          refine dn_getL (pc := 99) r0 lRX13_439 dX13_blockAnswer_99 (fun v10 => ?_)
                          refine dn_lload_n (pc := 102) 3 dX13_blockAnswer_102 rfl ?_
                          refine dn_lcmp (pc := 103) dX13_blockAnswer_103 ?_
                          refine dn_if_le (pc := 104) 135 dX13_blockAnswer_104 rfl (fun _ => ?_) (fun _ => ?_)
                          · exact dn_lv [0, 1, 2, 3, 4, 5, 6, 7] rfl (hj135 s69.1 s69.2.1 s69.2.2)
                          · exact dn_lv [0, 1, 4, 5, 6, 7] rfl (hj107 s69.2.2)
                      · exact dn_lv [0, 1, 2, 3, 4, 5, 6, 7] rfl (hj135 s69.1 s69.2.1 s69.2.2)
                  · refine dn_iinc (pc := 141) (s54.2.2 + 1) 6 dX13_blockAnswer_141 rfl rfl (Nat.le_of_ble_eq_true rfl) (dnKp_nb 5 rfl rfl rfl (dnKp_of (lv2 := [(0, dnV b r0), (1, .int p1), (2, .int q69.1), (3, .long q69.2), (5, .int s29.2.2)]) [0, 1, 2, 3, 4] rfl rfl)) ?_
                    refine dn_goto (pc := 144) 54 dX13_blockAnswer_144 rfl ?_
                    refine dn_leaf ?_
                    exact dn_lv [2, 3, 4, 5, 6, 1, 0] rfl (hK54 (q69.1, q69.2, (s54.2.2 + 1)))
              · refine dn_iinc (pc := 147) (s43.2.2 + 1) 5 dX13_blockAnswer_147 rfl rfl (Nat.le_of_ble_eq_true rfl) (dnKp_nb 4 rfl rfl rfl (dnKp_of (lv2 := [(0, dnV b r0), (1, .int p1), (2, .int q54.1), (3, .long q54.2)]) [0, 1, 2, 3] rfl rfl)) ?_
                refine dn_goto (pc := 150) 43 dX13_blockAnswer_150 rfl ?_
                refine dn_leaf ?_
                exact dn_lv [2, 3, 4, 5, 1, 0] rfl (hK43 (q54.1, q54.2, (s43.2.2 + 1)))
          · refine dn_iinc (pc := 153) (s29.2.2 + 1) 4 dX13_blockAnswer_153 rfl rfl (Nat.le_of_ble_eq_true rfl) (dnKp_of (lv2 := [(0, dnV b r0), (1, .int p1), (2, .int q43.1), (3, .long q43.2)]) [0, 1, 2, 3] rfl rfl) ?_
            refine dn_goto (pc := 156) 29 dX13_blockAnswer_156 rfl ?_
            refine dn_leaf ?_
            exact dn_lv [1, 2, 3, 4, 0] rfl (hK29 (q43.1, q43.2, (s29.2.2 + 1)))
      · refine dn_iload_n (pc := 159) 1 dX13_blockAnswer_159 rfl ?_
        refine dn_bipush (pc := 160) (v := -9) dX13_blockAnswer_160 rfl ?_
        refine dn_icmp_ne (pc := 162) 170 dX13_blockAnswer_162 rfl (fun _ => ?_) (fun _ => ?_)
        · refine dn_aload_n (pc := 170) r0 0 dX13_blockAnswer_170 rfl ?_
          refine dn_lload_n (pc := 171) 2 dX13_blockAnswer_171 rfl ?_
          refine dn_iload_n (pc := 172) 1 dX13_blockAnswer_172 rfl ?_
          refine dn_callV0I (pc := 173) [.long q29.2, .int q29.1] r0 kRX13_243 (mX13_tells w x b r0 q29.2 q29.1) rfl rfl (Nat.le_of_ble_eq_true rfl) ⟨(Nat.le_of_ble_eq_true rfl), (Nat.le_of_ble_eq_true rfl)⟩ ⟨rfl, rfl, (Nat.le_of_ble_eq_true rfl), (Nat.le_of_ble_eq_true rfl)⟩ dX13_blockAnswer_173 (fun v11 => ?_)
          exact dn_ret (Nat.le_of_ble_eq_true rfl) (Nat.le_of_ble_eq_true rfl) rfl dX13_blockAnswer_176
        · refine dn_bipush (pc := 165) (v := -9) dX13_blockAnswer_165 rfl ?_
          refine dn_goto (pc := 167) 176 dX13_blockAnswer_167 rfl ?_
          exact dn_ret (Nat.le_of_ble_eq_true rfl) (Nat.le_of_ble_eq_true rfl) rfl dX13_blockAnswer_176
    · refine dn_bipush (pc := 18) (v := -2) dX13_blockAnswer_18 rfl ?_
      exact dn_ret (Nat.le_of_ble_eq_true rfl) (Nat.le_of_ble_eq_true rfl) rfl dX13_blockAnswer_20
  · refine dn_iconst (pc := 7) (v := -1) dX13_blockAnswer_7 rfl ?_
    exact dn_ret (Nat.le_of_ble_eq_true rfl) (Nat.le_of_ble_eq_true rfl) rfl dX13_blockAnswer_8
abbrev rmX13_makes : Room := { frames := 0, cells := 0, slots := 0, locals := 0 }
def fX13_makes_j169 (s0 : Option Nat) (s1 : Int64) : dnM Unit :=
  dnB (dnPL s0 11 13 s1) fun _ =>
  dnP ()
def fX13_makes (r0 : Option Nat) (p1 : Int32) (p2 : Int64) : dnM Unit :=
  dnB (dnPI r0 11 12 p1) fun _ =>
  dnB (dnPD r0 11 14 FP.dconst0) fun _ =>
  if p1 = 0 then
  (dnB (dnPL r0 11 13 (p2 &&& 1)) fun _ =>
  dnP ())
  else
  (if p1 = 1 then
  (dnB (dnPL r0 11 13 ((((((p2 : Int64).toInt32) : Int32).toInt8.toInt32) : Int32).toInt64)) fun _ =>
  dnP ())
  else
  (if p1 = 2 then
  (dnB (dnPL r0 11 13 (((((((p2 : Int64).toInt32) : Int32).toUInt32 % 65536).toInt32) : Int32).toInt64)) fun _ =>
  dnP ())
  else
  (if p1 = 3 then
  (dnB (dnPL r0 11 13 ((((((p2 : Int64).toInt32) : Int32).toInt16.toInt32) : Int32).toInt64)) fun _ =>
  dnP ())
  else
  (if p1 = 4 then
  (dnB (dnPL r0 11 13 ((((p2 : Int64).toInt32) : Int32).toInt64)) fun _ =>
  dnP ())
  else
  (if p1 = 5 then
  (dnB (dnPL r0 11 13 p2) fun _ =>
  dnP ())
  else
  (if p1 = 6 then
  (dnB (dnPL r0 11 13 0) fun _ =>
  dnB (dnN32 (FP.fdiv (FP.l2f p2) 1090519040)) fun v2 =>
  dnB (dnN64 (FP.f2d v2)) fun v3 =>
  dnB (dnPD r0 11 14 v3) fun _ =>
  dnP ())
  else
  (if p1 = 7 then
  (dnB (dnPL r0 11 13 0) fun _ =>
  dnB (dnN64 (FP.ddiv (FP.l2d p2) 4620693217682128896)) fun v1 =>
  dnB (dnPD r0 11 14 v1) fun _ =>
  dnP ())
  else
  (if ¬ p1 = 11 then
  (fX13_makes_j169 r0 (p2 &&& 3))
  else
  (fX13_makes_j169 r0 0)))))))))
abbrev jX13_makes (w : dnWd) (x : dnX) (b : Nat) := dnD w x b (fun _ => True) cX13_makes RX13 4 rmX13_makes "makes" eU
set_option maxHeartbeats 4000000 in
set_option maxRecDepth 100000 in
theorem mX13_makes (w : dnWd) (x : dnX) (b : Nat) (r0 : Option Nat) (p1 : Int32) (p2 : Int64) : dnMt w x b yX13_makes cX13_makes 4 none rmX13_makes eU [dnV b r0, .int p1, .long p2] (fX13_makes r0 p1 p2) := by
  have hlv : lv_args 0 [dnV b r0, .int p1, .long p2] = [(0, dnV b r0), (1, .int p1), (2, .long p2)] := by cases r0 <;> rfl
  refine dn_mt (by decide) roU (by cases r0 <;> exact (Nat.le_of_ble_eq_true rfl)) ?_
  rw [hlv]
  refine dn_top ?_
  show jX13_makes w x b 0 0 0 _ [] (dnB _ dnP)
  unfold fX13_makes
  have hj169 : ∀ (s0 : Option Nat) (s1 : Int64), jX13_makes w x b 169 0 0 [] [.long s1, dnV b s0] (dnB (fX13_makes_j169 s0 s1) dnP) := by
    intro s0 s1
    unfold fX13_makes_j169
    refine dn_putL (pc := 169) s0 lRX13_197 dX13_makes_169 ?_
    exact dn_ret (Nat.le_of_ble_eq_true rfl) (Nat.le_of_ble_eq_true rfl) rfl dX13_makes_172
  refine dn_aload_n (pc := 0) r0 0 dX13_makes_0 rfl ?_
  refine dn_iload_n (pc := 1) 1 dX13_makes_1 rfl ?_
  refine dn_putI (pc := 2) r0 lRX13_190 dX13_makes_2 ?_
  refine dn_aload_n (pc := 5) r0 0 dX13_makes_5 rfl ?_
  refine dn_dconst0 (pc := 6) dX13_makes_6 ?_
  refine dn_putD (pc := 7) r0 lRX13_193 dX13_makes_7 ?_
  refine dn_iload_n (pc := 10) 1 dX13_makes_10 rfl ?_
  refine dn_tcase (pc := 11) 0 56 dX13_makes_11 (by decide) (by decide) rfl rfl (fun _ => ?_) (fun n11_0 => ?_)
  · refine dn_aload_n (pc := 56) r0 0 dX13_makes_56 rfl ?_
    refine dn_lload_n (pc := 57) 2 dX13_makes_57 rfl ?_
    refine dn_lconst (pc := 58) (v := 1) dX13_makes_58 rfl ?_
    refine dn_land (pc := 59) dX13_makes_59 ?_
    refine dn_putL (pc := 60) r0 lRX13_197 dX13_makes_60 ?_
    refine dn_goto (pc := 63) 172 dX13_makes_63 rfl ?_
    exact dn_ret (Nat.le_of_ble_eq_true rfl) (Nat.le_of_ble_eq_true rfl) rfl dX13_makes_172
  · refine dn_tcase (pc := 11) 1 66 dX13_makes_11 (by decide) (by decide) rfl rfl (fun _ => ?_) (fun n11_1 => ?_)
    · refine dn_aload_n (pc := 66) r0 0 dX13_makes_66 rfl ?_
      refine dn_lload_n (pc := 67) 2 dX13_makes_67 rfl ?_
      refine dn_l2i (pc := 68) dX13_makes_68 ?_
      refine dn_i2b (pc := 69) dX13_makes_69 ?_
      refine dn_i2l (pc := 70) dX13_makes_70 ?_
      refine dn_putL (pc := 71) r0 lRX13_197 dX13_makes_71 ?_
      refine dn_goto (pc := 74) 172 dX13_makes_74 rfl ?_
      exact dn_ret (Nat.le_of_ble_eq_true rfl) (Nat.le_of_ble_eq_true rfl) rfl dX13_makes_172
    · refine dn_tcase (pc := 11) 2 77 dX13_makes_11 (by decide) (by decide) rfl rfl (fun _ => ?_) (fun n11_2 => ?_)
      · refine dn_aload_n (pc := 77) r0 0 dX13_makes_77 rfl ?_
        refine dn_lload_n (pc := 78) 2 dX13_makes_78 rfl ?_
        refine dn_l2i (pc := 79) dX13_makes_79 ?_
        refine dn_i2c (pc := 80) dX13_makes_80 ?_
        refine dn_i2l (pc := 81) dX13_makes_81 ?_
        refine dn_putL (pc := 82) r0 lRX13_197 dX13_makes_82 ?_
        refine dn_goto (pc := 85) 172 dX13_makes_85 rfl ?_
        exact dn_ret (Nat.le_of_ble_eq_true rfl) (Nat.le_of_ble_eq_true rfl) rfl dX13_makes_172
      · refine dn_tcase (pc := 11) 3 88 dX13_makes_11 (by decide) (by decide) rfl rfl (fun _ => ?_) (fun n11_3 => ?_)
        · refine dn_aload_n (pc := 88) r0 0 dX13_makes_88 rfl ?_
          refine dn_lload_n (pc := 89) 2 dX13_makes_89 rfl ?_
          refine dn_l2i (pc := 90) dX13_makes_90 ?_
          refine dn_i2s (pc := 91) dX13_makes_91 ?_
          refine dn_i2l (pc := 92) dX13_makes_92 ?_
          refine dn_putL (pc := 93) r0 lRX13_197 dX13_makes_93 ?_
          refine dn_goto (pc := 96) 172 dX13_makes_96 rfl ?_
          exact dn_ret (Nat.le_of_ble_eq_true rfl) (Nat.le_of_ble_eq_true rfl) rfl dX13_makes_172
        · refine dn_tcase (pc := 11) 4 99 dX13_makes_11 (by decide) (by decide) rfl rfl (fun _ => ?_) (fun n11_4 => ?_)
          · refine dn_aload_n (pc := 99) r0 0 dX13_makes_99 rfl ?_
            refine dn_lload_n (pc := 100) 2 dX13_makes_100 rfl ?_
            refine dn_l2i (pc := 101) dX13_makes_101 ?_
            refine dn_i2l (pc := 102) dX13_makes_102 ?_
            refine dn_putL (pc := 103) r0 lRX13_197 dX13_makes_103 ?_
            refine dn_goto (pc := 106) 172 dX13_makes_106 rfl ?_
            exact dn_ret (Nat.le_of_ble_eq_true rfl) (Nat.le_of_ble_eq_true rfl) rfl dX13_makes_172
          · refine dn_tcase (pc := 11) 5 109 dX13_makes_11 (by decide) (by decide) rfl rfl (fun _ => ?_) (fun n11_5 => ?_)
            · refine dn_aload_n (pc := 109) r0 0 dX13_makes_109 rfl ?_
              refine dn_lload_n (pc := 110) 2 dX13_makes_110 rfl ?_
              refine dn_putL (pc := 111) r0 lRX13_197 dX13_makes_111 ?_
              refine dn_goto (pc := 114) 172 dX13_makes_114 rfl ?_
              exact dn_ret (Nat.le_of_ble_eq_true rfl) (Nat.le_of_ble_eq_true rfl) rfl dX13_makes_172
            · refine dn_tcase (pc := 11) 6 117 dX13_makes_11 (by decide) (by decide) rfl rfl (fun _ => ?_) (fun n11_6 => ?_)
              · refine dn_aload_n (pc := 117) r0 0 dX13_makes_117 rfl ?_
                refine dn_lconst (pc := 118) (v := 0) dX13_makes_118 rfl ?_
                refine dn_putL (pc := 119) r0 lRX13_197 dX13_makes_119 ?_
                refine dn_aload_n (pc := 122) r0 0 dX13_makes_122 rfl ?_
                refine dn_lload_n (pc := 123) 2 dX13_makes_123 rfl ?_
                refine dn_l2f (pc := 124) dX13_makes_124 ?_
                refine dn_ldcf (pc := 125) kRX13_200 dX13_makes_125 ?_
                refine dn_fdiv (pc := 127) dX13_makes_127 (fun v2 => ?_)
                refine dn_f2d (pc := 128) dX13_makes_128 (fun v3 => ?_)
                refine dn_putD (pc := 129) r0 lRX13_193 dX13_makes_129 ?_
                refine dn_goto (pc := 132) 172 dX13_makes_132 rfl ?_
                exact dn_ret (Nat.le_of_ble_eq_true rfl) (Nat.le_of_ble_eq_true rfl) rfl dX13_makes_172
              · refine dn_tcase (pc := 11) 7 135 dX13_makes_11 (by decide) (by decide) rfl rfl (fun _ => ?_) (fun n11_7 => ?_)
                · refine dn_aload_n (pc := 135) r0 0 dX13_makes_135 rfl ?_
                  refine dn_lconst (pc := 136) (v := 0) dX13_makes_136 rfl ?_
                  refine dn_putL (pc := 137) r0 lRX13_197 dX13_makes_137 ?_
                  refine dn_aload_n (pc := 140) r0 0 dX13_makes_140 rfl ?_
                  refine dn_lload_n (pc := 141) 2 dX13_makes_141 rfl ?_
                  refine dn_l2d (pc := 142) dX13_makes_142 ?_
                  refine dn_ldc2d (pc := 143) kRX13_201 dX13_makes_143 ?_
                  refine dn_ddiv (pc := 146) dX13_makes_146 (fun v1 => ?_)
                  refine dn_putD (pc := 147) r0 lRX13_193 dX13_makes_147 ?_
                  refine dn_goto (pc := 150) 172 dX13_makes_150 rfl ?_
                  exact dn_ret (Nat.le_of_ble_eq_true rfl) (Nat.le_of_ble_eq_true rfl) rfl dX13_makes_172
                · refine dn_tout (pc := 11) [0, 1, 2, 3, 4, 5, 6, 7] 153 dX13_makes_11 (List.forall_mem_cons.mpr ⟨n11_0, (List.forall_mem_cons.mpr ⟨n11_1, (List.forall_mem_cons.mpr ⟨n11_2, (List.forall_mem_cons.mpr ⟨n11_3, (List.forall_mem_cons.mpr ⟨n11_4, (List.forall_mem_cons.mpr ⟨n11_5, (List.forall_mem_cons.mpr ⟨n11_6, (List.forall_mem_cons.mpr ⟨n11_7, (fun _ h => absurd h List.not_mem_nil)⟩)⟩)⟩)⟩)⟩)⟩)⟩)⟩) (by decide) rfl ?_
                  refine dn_aload_n (pc := 153) r0 0 dX13_makes_153 rfl ?_
                  refine dn_iload_n (pc := 154) 1 dX13_makes_154 rfl ?_
                  refine dn_bipush (pc := 155) (v := 11) dX13_makes_155 rfl ?_
                  refine dn_icmp_ne (pc := 157) 164 dX13_makes_157 rfl (fun _ => ?_) (fun _ => ?_)
                  · refine dn_lload_n (pc := 164) 2 dX13_makes_164 rfl ?_
                    refine dn_ldc2 (pc := 165) kRX13_203 dX13_makes_165 ?_
                    refine dn_land (pc := 168) dX13_makes_168 ?_
                    exact dn_lv [] rfl (hj169 r0 (p2 &&& 3))
                  · refine dn_lconst (pc := 160) (v := 0) dX13_makes_160 rfl ?_
                    refine dn_goto (pc := 161) 169 dX13_makes_161 rfl ?_
                    exact dn_lv [] rfl (hj169 r0 0)
