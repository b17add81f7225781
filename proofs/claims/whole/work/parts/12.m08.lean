abbrev rmX13_isBehind : Room := { frames := 0, cells := 0, slots := 0, locals := 0 }
def fX13_isBehind_j32 : dnM Bool :=
  dnP true
def fX13_isBehind (r0 : Option Nat) (p1 : Int32) (p2 : Int32) : dnM Bool :=
  dnB (dnGR r0 11 16) fun v1 =>
  dnB (dnAL v1 102 p1) fun v2 =>
  dnB (dnGR r0 11 16) fun v3 =>
  dnB (dnAL v3 102 p2) fun v4 =>
  if 0 < (lg_cmp v2 v4) then
  (fX13_isBehind_j32)
  else
  (dnB (dnGR r0 11 17) fun v5 =>
  dnB (dnAD v5 103 p1) fun v6 =>
  dnB (dnGR r0 11 17) fun v7 =>
  dnB (dnAD v7 103 p2) fun v8 =>
  if (Op.cmpValue (FP.dcmp v6 v8) .l) ≤ 0 then
  (dnP false)
  else
  (fX13_isBehind_j32))
abbrev jX13_isBehind (w : dnWd) (x : dnX) (b : Nat) := dnD w x b (fun _ => True) cX13_isBehind RX13 3 rmX13_isBehind "isBehind" eZ
set_option maxHeartbeats 4000000 in
set_option maxRecDepth 100000 in
theorem mX13_isBehind (w : dnWd) (x : dnX) (b : Nat) (r0 : Option Nat) (p1 : Int32) (p2 : Int32) : dnMt w x b yX13_isBehind cX13_isBehind 3 (some .boolean) rmX13_isBehind eZ [dnV b r0, .int p1, .int p2] (fX13_isBehind r0 p1 p2) := by
  have hlv : lv_args 0 [dnV b r0, .int p1, .int p2] = [(0, dnV b r0), (1, .int p1), (2, .int p2)] := by cases r0 <;> rfl
  refine dn_mt (by decide +kernel) roZ (by cases r0 <;> exact (Nat.le_of_ble_eq_true rfl)) ?_
  rw [hlv]
  refine dn_top ?_
  show jX13_isBehind w x b 0 0 0 _ [] (dnB _ dnP)
  unfold fX13_isBehind
  have hj32 : jX13_isBehind w x b 32 0 0 [] [] (dnB (fX13_isBehind_j32) dnP) := by
    unfold fX13_isBehind_j32
    refine dn_iconst (pc := 32) (v := 1) dX13_isBehind_32 rfl ?_
    refine dn_goto (pc := 33) 37 dX13_isBehind_33 rfl ?_
    exact dn_ret (Nat.le_of_ble_eq_true rfl) (Nat.le_of_ble_eq_true rfl) rfl dX13_isBehind_37
  refine dn_aload_n (pc := 0) r0 0 dX13_isBehind_0 rfl ?_
  refine dn_getR (pc := 1) r0 lRX13_46 dX13_isBehind_1 (fun v1 => ?_)
  refine dn_iload_n (pc := 4) 1 dX13_isBehind_4 rfl ?_
  refine dn_lald (pc := 5) v1 dX13_isBehind_5 (fun v2 => ?_)
  refine dn_aload_n (pc := 6) r0 0 dX13_isBehind_6 rfl ?_
  refine dn_getR (pc := 7) r0 lRX13_46 dX13_isBehind_7 (fun v3 => ?_)
  refine dn_iload_n (pc := 10) 2 dX13_isBehind_10 rfl ?_
  refine dn_lald (pc := 11) v3 dX13_isBehind_11 (fun v4 => ?_)
  refine dn_lcmp (pc := 12) dX13_isBehind_12 ?_
  refine dn_if_gt (pc := 13) 32 dX13_isBehind_13 rfl (fun _ => ?_) (fun _ => ?_)
  · exact dn_lv [] rfl (hj32)
  · refine dn_aload_n (pc := 16) r0 0 dX13_isBehind_16 rfl ?_
    refine dn_getR (pc := 17) r0 lRX13_49 dX13_isBehind_17 (fun v5 => ?_)
    refine dn_iload_n (pc := 20) 1 dX13_isBehind_20 rfl ?_
    refine dn_dald (pc := 21) v5 dX13_isBehind_21 (fun v6 => ?_)
    refine dn_aload_n (pc := 22) r0 0 dX13_isBehind_22 rfl ?_
    refine dn_getR (pc := 23) r0 lRX13_49 dX13_isBehind_23 (fun v7 => ?_)
    refine dn_iload_n (pc := 26) 2 dX13_isBehind_26 rfl ?_
    refine dn_dald (pc := 27) v7 dX13_isBehind_27 (fun v8 => ?_)
    refine dn_dcmp (pc := 28) dX13_isBehind_28 ?_
    refine dn_if_le (pc := 29) 36 dX13_isBehind_29 rfl (fun _ => ?_) (fun _ => ?_)
    · refine dn_iconst (pc := 36) (v := 0) dX13_isBehind_36 rfl ?_
      exact dn_ret (Nat.le_of_ble_eq_true rfl) (Nat.le_of_ble_eq_true rfl) rfl dX13_isBehind_37
    · exact dn_lv [] rfl (hj32)
abbrev rmX13_orderDeed : Room := { frames := 3, cells := 0, slots := 0, locals := 68 }
def fX13_orderDeed_j120 (l0 : Option Nat) (l4 : Int32) (l5 : Int32) (l6 : Int32) (l8 : Int32) (s0 : Int32) (s1 : Bool) : dnM ((Int32 × Int32) ⊕ (Int32)) :=
  dnP (.inl ((s0 + (dnZ s1)), (l8 + 1)))
def fX13_orderDeed_j119 (l0 : Option Nat) (l4 : Int32) (l5 : Int32) (l6 : Int32) (l8 : Int32) (s0 : Int32) : dnM ((Int32 × Int32) ⊕ (Int32)) :=
  fX13_orderDeed_j120 l0 l4 l5 l6 l8 s0 false
def fX13_orderDeed_j115 (l0 : Option Nat) (l4 : Int32) (l5 : Int32) (l6 : Int32) (l8 : Int32) (s0 : Int32) : dnM ((Int32 × Int32) ⊕ (Int32)) :=
  fX13_orderDeed_j120 l0 l4 l5 l6 l8 s0 true
def fX13_orderDeed_b77 (c0 : Option Nat) (c4 : Int32) (c5 : Int32) (c6 : Int32) (s77 : Int32 × Int32) : dnM ((Int32 × Int32) ⊕ (Int32)) :=
  if c5 ≤ s77.2 then
  (dnP (.inr s77.1))
  else
  (dnB (dnCv c0 11 (fX13_isBehind c0 c6 s77.2)) fun v10 =>
  if v10 = true then
  (fX13_orderDeed_j115 c0 c4 c5 c6 s77.2 s77.1)
  else
  (dnB (dnCv c0 11 (fX13_isBehind c0 s77.2 c6)) fun v11 =>
  if v11 = true then
  (fX13_orderDeed_j119 c0 c4 c5 c6 s77.2 s77.1)
  else
  (if c6 ≤ s77.2 then
  (fX13_orderDeed_j119 c0 c4 c5 c6 s77.2 s77.1)
  else
  (fX13_orderDeed_j115 c0 c4 c5 c6 s77.2 s77.1))))
def fX13_orderDeed_b64 (c0 : Option Nat) (c4 : Int32) (c5 : Int32) (s64 : Int32) : dnM ((Int32) ⊕ (Unit)) :=
  if c5 ≤ s64 then
  (dnP (.inr ()))
  else
  (dnB (dnIt 1000 (fX13_orderDeed_b77 c0 c4 c5 s64) (0, 0)) fun q77 =>
  dnB (dnCv c0 11 (fX13_fromBy c0 s64 c4 q77)) fun _ =>
  dnP (.inl (s64 + 1)))
def fX13_orderDeed_j213 (l0 : Option Nat) (l4 : Int32) (l5 : Int32) (l7 : Int32) (s0 : Int32) (s1 : Bool) : dnM ((Int32 × Int32) ⊕ (Int32)) :=
  dnP (.inl ((s0 + (dnZ s1)), (l7 + 1)))
def fX13_orderDeed_j208 (l0 : Option Nat) (l4 : Int32) (l5 : Int32) (l7 : Int32) (s0 : Int32) : dnM ((Int32 × Int32) ⊕ (Int32)) :=
  fX13_orderDeed_j213 l0 l4 l5 l7 s0 true
def fX13_orderDeed_b151 (c0 : Option Nat) (c4 : Int32) (c5 : Int32) (s151 : Int32 × Int32) : dnM ((Int32 × Int32) ⊕ (Int32)) :=
  if c5 ≤ s151.2 then
  (dnP (.inr s151.1))
  else
  (dnB (dnGR c0 11 10) fun v13 =>
  dnB (dnAL v13 102 ((12 * c4) + s151.2)) fun v14 =>
  dnB (dnGR c0 11 16) fun v15 =>
  dnB (dnAL v15 102 s151.2) fun v16 =>
  if ¬ (lg_cmp v14 v16) = 0 then
  (fX13_orderDeed_j208 c0 c4 c5 s151.2 s151.1)
  else
  (dnB (dnGR c0 11 11) fun v17 =>
  dnB (dnAD v17 103 ((12 * c4) + s151.2)) fun v18 =>
  dnB (dnGR c0 11 17) fun v19 =>
  dnB (dnAD v19 103 s151.2) fun v20 =>
  if (Op.cmpValue (FP.dcmp v18 v20) .l) = 0 then
  (fX13_orderDeed_j213 c0 c4 c5 s151.2 s151.1 false)
  else
  (fX13_orderDeed_j208 c0 c4 c5 s151.2 s151.1)))
def fX13_orderDeed (r0 : Option Nat) (p1 : Int32) (p2 : Int32) : dnM Int32 :=
  dnB (fX13_isGrid p1) fun v1 =>
  if v1 = true then
  (dnB (dnCv r0 11 (fX13_rowFault r0 p1 p2)) fun v2 =>
  if v2 = 0 then
  (dnB (dnCv r0 11 (fX13_held r0 p1 p2)) fun v3 =>
  dnB (dnGR r0 11 6) fun v4 =>
  dnB (dnAI v4 100 v3) fun v5 =>
  dnB (fX13_isPlain v5) fun v6 =>
  if v6 = true then
  (dnB (dnCv r0 11 (fX13_laysBy r0 v3)) fun _ =>
  dnB (dnGR r0 11 7) fun v8 =>
  dnB (dnAI v8 100 v3) fun v9 =>
  dnB (dnIt 1000 (fX13_orderDeed_b64 r0 v3 v9) 0) fun q64 =>
  dnB (dnIt 1000 (fX13_orderDeed_b151 r0 v3 v9) (0, 0)) fun q151 =>
  dnP q151)
  else
  (dnP (-7)))
  else
  (dnP v2))
  else
  (dnP (-1))
abbrev jX13_orderDeed (w : dnWd) (x : dnX) (b : Nat) := dnD w x b (fun _ => True) cX13_orderDeed RX13 9 rmX13_orderDeed "orderDeed" eI
set_option maxHeartbeats 4000000 in
set_option maxRecDepth 100000 in
theorem mX13_orderDeed (w : dnWd) (x : dnX) (b : Nat) (r0 : Option Nat) (p1 : Int32) (p2 : Int32) : dnMt w x b yX13_orderDeed cX13_orderDeed 9 (some .int) rmX13_orderDeed eI [dnV b r0, .int p1, .int p2] (fX13_orderDeed r0 p1 p2) := by
  have hlv : lv_args 0 [dnV b r0, .int p1, .int p2] = [(0, dnV b r0), (1, .int p1), (2, .int p2)] := by cases r0 <;> rfl
  refine dn_mt (by decide +kernel) roI (by cases r0 <;> exact (Nat.le_of_ble_eq_true rfl)) ?_
  rw [hlv]
  refine dn_top ?_
  show jX13_orderDeed w x b 0 0 0 _ [] (dnB _ dnP)
  unfold fX13_orderDeed
  refine dn_iload_n (pc := 0) 1 dX13_orderDeed_0 rfl ?_
  refine dn_callS0Z (pc := 1) [.int p1]  kRX13_134 (mX13_isGrid w x b p1) rfl rfl (Nat.le_of_ble_eq_true rfl) ⟨(Nat.le_of_ble_eq_true rfl), (Nat.le_of_ble_eq_true rfl)⟩ ⟨rfl, rfl, (Nat.le_of_ble_eq_true rfl), (Nat.le_of_ble_eq_true rfl)⟩ dX13_orderDeed_1 (fun v1 => ?_)
  refine dn_ifz_ne (pc := 4) 9 dX13_orderDeed_4 rfl (fun _ => ?_) (fun _ => ?_)
  · refine dn_aload_n (pc := 9) r0 0 dX13_orderDeed_9 rfl ?_
    refine dn_iload_n (pc := 10) 1 dX13_orderDeed_10 rfl ?_
    refine dn_iload_n (pc := 11) 2 dX13_orderDeed_11 rfl ?_
    refine dn_callV0I (pc := 12) [.int p1, .int p2] r0 kRX13_131 (mX13_rowFault w x b r0 p1 p2) rfl rfl (Nat.le_of_ble_eq_true rfl) ⟨(Nat.le_of_ble_eq_true rfl), (Nat.le_of_ble_eq_true rfl)⟩ ⟨rfl, rfl, (Nat.le_of_ble_eq_true rfl), (Nat.le_of_ble_eq_true rfl)⟩ dX13_orderDeed_12 (fun v2 => ?_)
    refine dn_istore_n (pc := 15) dX13_orderDeed_15 (Nat.le_of_ble_eq_true rfl) (dnKp_nb 2 rfl rfl rfl (dnKp_of (lv2 := [(0, dnV b r0), (1, .int p1)]) [0, 1] rfl rfl)) ?_
    refine dn_iload_n (pc := 16) 0 dX13_orderDeed_16 rfl ?_
    refine dn_if_eq (pc := 17) 22 dX13_orderDeed_17 rfl (fun _ => ?_) (fun _ => ?_)
    · refine dn_aload_n (pc := 22) r0 2 dX13_orderDeed_22 rfl ?_
      refine dn_iload_n (pc := 23) 3 dX13_orderDeed_23 rfl ?_
      refine dn_iload_n (pc := 24) 1 dX13_orderDeed_24 rfl ?_
      refine dn_callV0I (pc := 25) [.int p1, .int p2] r0 kRX13_128 (mX13_held w x b r0 p1 p2) rfl rfl (Nat.le_of_ble_eq_true rfl) ⟨(Nat.le_of_ble_eq_true rfl), (Nat.le_of_ble_eq_true rfl)⟩ ⟨rfl, rfl, (Nat.le_of_ble_eq_true rfl), (Nat.le_of_ble_eq_true rfl)⟩ dX13_orderDeed_25 (fun v3 => ?_)
      refine dn_istore (pc := 28) dX13_orderDeed_28 (Nat.le_of_ble_eq_true rfl) (dnKp_of (lv2 := [(0, dnV b r0)]) [2] rfl rfl) ?_
      refine dn_aload_n (pc := 30) r0 1 dX13_orderDeed_30 rfl ?_
      refine dn_getR (pc := 31) r0 lRX13_23 dX13_orderDeed_31 (fun v4 => ?_)
      refine dn_iload (pc := 34) 0 dX13_orderDeed_34 rfl ?_
      refine dn_iald (pc := 36) v4 dX13_orderDeed_36 (fun v5 => ?_)
      refine dn_callS0Z (pc := 37) [.int v5]  kRX13_209 (mX13_isPlain w x b v5) rfl rfl (Nat.le_of_ble_eq_true rfl) ⟨(Nat.le_of_ble_eq_true rfl), (Nat.le_of_ble_eq_true rfl)⟩ ⟨rfl, rfl, (Nat.le_of_ble_eq_true rfl), (Nat.le_of_ble_eq_true rfl)⟩ dX13_orderDeed_37 (fun v6 => ?_)
      refine dn_ifz_ne (pc := 40) 46 dX13_orderDeed_40 rfl (fun _ => ?_) (fun _ => ?_)
      · refine dn_aload_n (pc := 46) r0 1 dX13_orderDeed_46 rfl ?_
        refine dn_iload (pc := 47) 0 dX13_orderDeed_47 rfl ?_
        refine dn_callV0U (pc := 49) [.int v3] r0 kRX13_300 (mX13_laysBy w x b r0 v3) rfl rfl (Nat.le_of_ble_eq_true rfl) ⟨(Nat.le_of_ble_eq_true rfl), (Nat.le_of_ble_eq_true rfl)⟩ ⟨rfl, rfl, (Nat.le_of_ble_eq_true rfl), (Nat.le_of_ble_eq_true rfl)⟩ dX13_orderDeed_49 (fun _ => ?_)
        refine dn_aload_n (pc := 52) r0 1 dX13_orderDeed_52 rfl ?_
        refine dn_getR (pc := 53) r0 lRX13_26 dX13_orderDeed_53 (fun v8 => ?_)
        refine dn_iload (pc := 56) 0 dX13_orderDeed_56 rfl ?_
        refine dn_iald (pc := 58) v8 dX13_orderDeed_58 (fun v9 => ?_)
        refine dn_istore (pc := 59) dX13_orderDeed_59 (Nat.le_of_ble_eq_true rfl) (dnKp_nb 0 rfl rfl rfl (dnKp_of (lv2 := [(0, dnV b r0)]) [1] rfl rfl)) ?_
        refine dn_iconst (pc := 61) (v := 0) dX13_orderDeed_61 rfl ?_
        refine dn_istore (pc := 62) dX13_orderDeed_62 (Nat.le_of_ble_eq_true rfl) (dnKp_nb 0 rfl rfl rfl (dnKp_of (lv2 := [(4, .int v3), (0, dnV b r0)]) [1, 2] rfl rfl)) ?_
        refine dn_assoc ?_
        refine dn_lv [3, 2, 1, 0] (lv2 := (fun s => [(0, dnV b r0), (4, .int v3), (5, .int v9), (6, .int s)]) 0) rfl ?_
        refine dn_loopE (pc := 64) (body := fX13_orderDeed_b64 r0 v3 v9) 145 (fun s => [(0, dnV b r0), (4, .int v3), (5, .int v9), (6, .int s)]) (fun q => [(0, dnV b r0), (4, .int v3), (5, .int v9)]) (fun s64 K64 E64 hK64 hE64 => ?_) (fun q64 => ?_) 1000 0
        · unfold fX13_orderDeed_b64
          refine dn_iload (pc := 64) 3 dX13_orderDeed_64 rfl ?_
          refine dn_iload (pc := 66) 2 dX13_orderDeed_66 rfl ?_
          refine dn_icmp_ge (pc := 68) 145 dX13_orderDeed_68 rfl (fun _ => ?_) (fun _ => ?_)
          · refine dn_leaf ?_
            exact dn_lv [0, 1, 2] rfl (hE64 ())
          · refine dn_iconst (pc := 71) (v := 0) dX13_orderDeed_71 rfl ?_
            refine dn_istore (pc := 72) dX13_orderDeed_72 (Nat.le_of_ble_eq_true rfl) (dnKp_nb 3 rfl rfl rfl (dnKp_of (lv2 := [(0, dnV b r0), (4, .int v3), (5, .int v9)]) [0, 1, 2] rfl rfl)) ?_
            refine dn_iconst (pc := 74) (v := 0) dX13_orderDeed_74 rfl ?_
            refine dn_istore (pc := 75) dX13_orderDeed_75 (Nat.le_of_ble_eq_true rfl) (dnKp_nb 0 rfl rfl rfl (dnKp_of (lv2 := [(6, .int s64), (0, dnV b r0), (4, .int v3), (5, .int v9)]) [1, 2, 3, 4] rfl rfl)) ?_
            refine dn_assoc ?_
            refine dn_lv [3, 4, 5, 2, 1, 0] (lv2 := (fun s => [(0, dnV b r0), (4, .int v3), (5, .int v9), (6, .int s64), (7, .int s.1), (8, .int s.2)]) (0, 0)) rfl ?_
            refine dn_loopE (pc := 77) (body := fX13_orderDeed_b77 r0 v3 v9 s64) 129 (fun s => [(0, dnV b r0), (4, .int v3), (5, .int v9), (6, .int s64), (7, .int s.1), (8, .int s.2)]) (fun q => [(0, dnV b r0), (4, .int v3), (5, .int v9), (6, .int s64), (7, .int q)]) (fun s77 K77 E77 hK77 hE77 => ?_) (fun q77 => ?_) 1000 (0, 0)
            · unfold fX13_orderDeed_b77
              have hj120 : ∀ (l8 : Int32) (s0 : Int32) (s1 : Bool), jX13_orderDeed w x b 120 0 0 [(0, dnV b r0), (4, .int v3), (5, .int v9), (6, .int s64), (8, .int l8)] [.int (dnZ s1), .int s0] (dnB (fX13_orderDeed_j120 r0 v3 v9 s64 l8 s0 s1) (dnKo K77 E77)) := by
                intro l8 s0 s1
                unfold fX13_orderDeed_j120
                refine dn_iadd (pc := 120) dX13_orderDeed_120 ?_
                refine dn_istore (pc := 121) dX13_orderDeed_121 (Nat.le_of_ble_eq_true rfl) (dnKp_nb 3 rfl rfl rfl (dnKp_of (lv2 := [(0, dnV b r0), (4, .int v3), (5, .int v9), (8, .int l8)]) [0, 1, 2, 4] rfl rfl)) ?_
                refine dn_iinc (pc := 123) (l8 + 1) 5 dX13_orderDeed_123 rfl rfl (Nat.le_of_ble_eq_true rfl) (dnKp_nb 0 rfl rfl rfl (dnKp_of (lv2 := [(6, .int s64), (0, dnV b r0), (4, .int v3), (5, .int v9)]) [1, 2, 3, 4] rfl rfl)) ?_
                refine dn_goto (pc := 126) 77 dX13_orderDeed_126 rfl ?_
                refine dn_leaf ?_
                exact dn_lv [3, 4, 5, 2, 1, 0] rfl (hK77 ((s0 + (dnZ s1)), (l8 + 1)))
              have hj119 : ∀ (l8 : Int32) (s0 : Int32), jX13_orderDeed w x b 119 0 0 [(0, dnV b r0), (4, .int v3), (5, .int v9), (6, .int s64), (8, .int l8)] [.int s0] (dnB (fX13_orderDeed_j119 r0 v3 v9 s64 l8 s0) (dnKo K77 E77)) := by
                intro l8 s0
                unfold fX13_orderDeed_j119
                refine dn_iconst (pc := 119) (v := 0) dX13_orderDeed_119 rfl ?_
                exact dn_lv [0, 1, 2, 3, 4] rfl (hj120 l8 s0 false)
              have hj115 : ∀ (l8 : Int32) (s0 : Int32), jX13_orderDeed w x b 115 0 0 [(0, dnV b r0), (4, .int v3), (5, .int v9), (6, .int s64), (8, .int l8)] [.int s0] (dnB (fX13_orderDeed_j115 r0 v3 v9 s64 l8 s0) (dnKo K77 E77)) := by
                intro l8 s0
                unfold fX13_orderDeed_j115
                refine dn_iconst (pc := 115) (v := 1) dX13_orderDeed_115 rfl ?_
                refine dn_goto (pc := 116) 120 dX13_orderDeed_116 rfl ?_
                exact dn_lv [0, 1, 2, 3, 4] rfl (hj120 l8 s0 true)
              refine dn_iload (pc := 77) 5 dX13_orderDeed_77 rfl ?_
              refine dn_iload (pc := 79) 2 dX13_orderDeed_79 rfl ?_
              refine dn_icmp_ge (pc := 81) 129 dX13_orderDeed_81 rfl (fun _ => ?_) (fun _ => ?_)
              · refine dn_leaf ?_
                exact dn_lv [0, 1, 2, 3, 4] rfl (hE77 s77.1)
              · refine dn_iload (pc := 84) 4 dX13_orderDeed_84 rfl ?_
                refine dn_aload_n (pc := 86) r0 0 dX13_orderDeed_86 rfl ?_
                refine dn_iload (pc := 87) 3 dX13_orderDeed_87 rfl ?_
                refine dn_iload (pc := 89) 5 dX13_orderDeed_89 rfl ?_
                refine dn_callV0Z (pc := 91) [.int s64, .int s77.2] r0 kRX13_312 (mX13_isBehind w x b r0 s64 s77.2) rfl rfl (Nat.le_of_ble_eq_true rfl) ⟨(Nat.le_of_ble_eq_true rfl), (Nat.le_of_ble_eq_true rfl)⟩ ⟨rfl, rfl, (Nat.le_of_ble_eq_true rfl), (Nat.le_of_ble_eq_true rfl)⟩ dX13_orderDeed_91 (fun v10 => ?_)
                refine dn_ifz_ne (pc := 94) 115 dX13_orderDeed_94 rfl (fun _ => ?_) (fun _ => ?_)
                · exact dn_lv [0, 1, 2, 3, 5] rfl (hj115 s77.2 s77.1)
                · refine dn_aload_n (pc := 97) r0 0 dX13_orderDeed_97 rfl ?_
                  refine dn_iload (pc := 98) 5 dX13_orderDeed_98 rfl ?_
                  refine dn_iload (pc := 100) 3 dX13_orderDeed_100 rfl ?_
                  refine dn_callV0Z (pc := 102) [.int s77.2, .int s64] r0 kRX13_312 (mX13_isBehind w x b r0 s77.2 s64) rfl rfl (Nat.le_of_ble_eq_true rfl) ⟨(Nat.le_of_ble_eq_true rfl), (Nat.le_of_ble_eq_true rfl)⟩ ⟨rfl, rfl, (Nat.le_of_ble_eq_true rfl), (Nat.le_of_ble_eq_true rfl)⟩ dX13_orderDeed_102 (fun v11 => ?_)
                  refine dn_ifz_ne (pc := 105) 119 dX13_orderDeed_105 rfl (fun _ => ?_) (fun _ => ?_)
                  · exact dn_lv [0, 1, 2, 3, 5] rfl (hj119 s77.2 s77.1)
                  · refine dn_iload (pc := 108) 5 dX13_orderDeed_108 rfl ?_
                    refine dn_iload (pc := 110) 3 dX13_orderDeed_110 rfl ?_
                    refine dn_icmp_ge (pc := 112) 119 dX13_orderDeed_112 rfl (fun _ => ?_) (fun _ => ?_)
                    · exact dn_lv [0, 1, 2, 3, 5] rfl (hj119 s77.2 s77.1)
                    · exact dn_lv [0, 1, 2, 3, 5] rfl (hj115 s77.2 s77.1)
            · refine dn_aload_n (pc := 129) r0 0 dX13_orderDeed_129 rfl ?_
              refine dn_iload (pc := 130) 3 dX13_orderDeed_130 rfl ?_
              refine dn_iload (pc := 132) 1 dX13_orderDeed_132 rfl ?_
              refine dn_iload (pc := 134) 4 dX13_orderDeed_134 rfl ?_
              refine dn_callV0U (pc := 136) [.int s64, .int v3, .int q77] r0 kRX13_303 (mX13_fromBy w x b r0 s64 v3 q77) rfl rfl (Nat.le_of_ble_eq_true rfl) ⟨(Nat.le_of_ble_eq_true rfl), (Nat.le_of_ble_eq_true rfl)⟩ ⟨rfl, rfl, (Nat.le_of_ble_eq_true rfl), (Nat.le_of_ble_eq_true rfl)⟩ dX13_orderDeed_136 (fun _ => ?_)
              refine dn_iinc (pc := 139) (s64 + 1) 3 dX13_orderDeed_139 rfl rfl (Nat.le_of_ble_eq_true rfl) (dnKp_nb 2 rfl rfl rfl (dnKp_of (lv2 := [(0, dnV b r0), (4, .int v3)]) [0, 1] rfl rfl)) ?_
              refine dn_goto (pc := 142) 64 dX13_orderDeed_142 rfl ?_
              refine dn_leaf ?_
              exact dn_lv [2, 3, 1, 0] rfl (hK64 (s64 + 1))
        · refine dn_iconst (pc := 145) (v := 0) dX13_orderDeed_145 rfl ?_
          refine dn_istore (pc := 146) dX13_orderDeed_146 (Nat.le_of_ble_eq_true rfl) (dnKp_nb 2 rfl rfl rfl (dnKp_of (lv2 := [(0, dnV b r0), (4, .int v3)]) [0, 1] rfl rfl)) ?_
          refine dn_iconst (pc := 148) (v := 0) dX13_orderDeed_148 rfl ?_
          refine dn_istore (pc := 149) dX13_orderDeed_149 (Nat.le_of_ble_eq_true rfl) (dnKp_nb 0 rfl rfl rfl (dnKp_of (lv2 := [(5, .int v9), (0, dnV b r0), (4, .int v3)]) [1, 2, 3] rfl rfl)) ?_
          refine dn_assoc ?_
          refine dn_lv [3, 4, 2, 1, 0] (lv2 := (fun s => [(0, dnV b r0), (4, .int v3), (5, .int v9), (6, .int s.1), (7, .int s.2)]) (0, 0)) rfl ?_
          refine dn_loopE (pc := 151) (body := fX13_orderDeed_b151 r0 v3 v9) 222 (fun s => [(0, dnV b r0), (4, .int v3), (5, .int v9), (6, .int s.1), (7, .int s.2)]) (fun q => [(6, .int q)]) (fun s151 K151 E151 hK151 hE151 => ?_) (fun q151 => ?_) 1000 (0, 0)
          · unfold fX13_orderDeed_b151
            have hj213 : ∀ (l7 : Int32) (s0 : Int32) (s1 : Bool), jX13_orderDeed w x b 213 0 0 [(0, dnV b r0), (4, .int v3), (5, .int v9), (7, .int l7)] [.int (dnZ s1), .int s0] (dnB (fX13_orderDeed_j213 r0 v3 v9 l7 s0 s1) (dnKo K151 E151)) := by
              intro l7 s0 s1
              unfold fX13_orderDeed_j213
              refine dn_iadd (pc := 213) dX13_orderDeed_213 ?_
              refine dn_istore (pc := 214) dX13_orderDeed_214 (Nat.le_of_ble_eq_true rfl) (dnKp_nb 2 rfl rfl rfl (dnKp_of (lv2 := [(0, dnV b r0), (4, .int v3), (7, .int l7)]) [0, 1, 3] rfl rfl)) ?_
              refine dn_iinc (pc := 216) (l7 + 1) 4 dX13_orderDeed_216 rfl rfl (Nat.le_of_ble_eq_true rfl) (dnKp_nb 0 rfl rfl rfl (dnKp_of (lv2 := [(5, .int v9), (0, dnV b r0), (4, .int v3)]) [1, 2, 3] rfl rfl)) ?_
              refine dn_goto (pc := 219) 151 dX13_orderDeed_219 rfl ?_
              refine dn_leaf ?_
              exact dn_lv [3, 4, 2, 1, 0] rfl (hK151 ((s0 + (dnZ s1)), (l7 + 1)))
            have hj208 : ∀ (l7 : Int32) (s0 : Int32), jX13_orderDeed w x b 208 0 0 [(0, dnV b r0), (4, .int v3), (5, .int v9), (7, .int l7)] [.int s0] (dnB (fX13_orderDeed_j208 r0 v3 v9 l7 s0) (dnKo K151 E151)) := by
              intro l7 s0
              unfold fX13_orderDeed_j208
              refine dn_iconst (pc := 208) (v := 1) dX13_orderDeed_208 rfl ?_
              refine dn_goto (pc := 209) 213 dX13_orderDeed_209 rfl ?_
              exact dn_lv [0, 1, 2, 3] rfl (hj213 l7 s0 true)
            refine dn_iload (pc := 151) 4 dX13_orderDeed_151 rfl ?_
            refine dn_iload (pc := 153) 2 dX13_orderDeed_153 rfl ?_
            refine dn_icmp_ge (pc := 155) 222 dX13_orderDeed_155 rfl (fun _ => ?_) (fun _ => ?_)
            · refine dn_leaf ?_
              exact dn_lv [3] rfl (hE151 s151.1)
            · refine dn_iload (pc := 158) 3 dX13_orderDeed_158 rfl ?_
              refine dn_aload_n (pc := 160) r0 0 dX13_orderDeed_160 rfl ?_
              refine dn_getR (pc := 161) r0 lRX13_35 dX13_orderDeed_161 (fun v13 => ?_)
              refine dn_bipush (pc := 164) (v := 12) dX13_orderDeed_164 rfl ?_
              refine dn_iload (pc := 166) 1 dX13_orderDeed_166 rfl ?_
              refine dn_imul (pc := 168) dX13_orderDeed_168 ?_
              refine dn_iload (pc := 169) 4 dX13_orderDeed_169 rfl ?_
              refine dn_iadd (pc := 171) dX13_orderDeed_171 ?_
              refine dn_lald (pc := 172) v13 dX13_orderDeed_172 (fun v14 => ?_)
              refine dn_aload_n (pc := 173) r0 0 dX13_orderDeed_173 rfl ?_
              refine dn_getR (pc := 174) r0 lRX13_46 dX13_orderDeed_174 (fun v15 => ?_)
              refine dn_iload (pc := 177) 4 dX13_orderDeed_177 rfl ?_
              refine dn_lald (pc := 179) v15 dX13_orderDeed_179 (fun v16 => ?_)
              refine dn_lcmp (pc := 180) dX13_orderDeed_180 ?_
              refine dn_if_ne (pc := 181) 208 dX13_orderDeed_181 rfl (fun _ => ?_) (fun _ => ?_)
              · exact dn_lv [0, 1, 2, 4] rfl (hj208 s151.2 s151.1)
              · refine dn_aload_n (pc := 184) r0 0 dX13_orderDeed_184 rfl ?_
                refine dn_getR (pc := 185) r0 lRX13_39 dX13_orderDeed_185 (fun v17 => ?_)
                refine dn_bipush (pc := 188) (v := 12) dX13_orderDeed_188 rfl ?_
                refine dn_iload (pc := 190) 1 dX13_orderDeed_190 rfl ?_
                refine dn_imul (pc := 192) dX13_orderDeed_192 ?_
                refine dn_iload (pc := 193) 4 dX13_orderDeed_193 rfl ?_
                refine dn_iadd (pc := 195) dX13_orderDeed_195 ?_
                refine dn_dald (pc := 196) v17 dX13_orderDeed_196 (fun v18 => ?_)
                refine dn_aload_n (pc := 197) r0 0 dX13_orderDeed_197 rfl ?_
                refine dn_getR (pc := 198) r0 lRX13_49 dX13_orderDeed_198 (fun v19 => ?_)
                refine dn_iload (pc := 201) 4 dX13_orderDeed_201 rfl ?_
                refine dn_dald (pc := 203) v19 dX13_orderDeed_203 (fun v20 => ?_)
                refine dn_dcmp (pc := 204) dX13_orderDeed_204 ?_
                refine dn_if_eq (pc := 205) 212 dX13_orderDeed_205 rfl (fun _ => ?_) (fun _ => ?_)
                · refine dn_iconst (pc := 212) (v := 0) dX13_orderDeed_212 rfl ?_
                  exact dn_lv [0, 1, 2, 4] rfl (hj213 s151.2 s151.1 false)
                · exact dn_lv [0, 1, 2, 4] rfl (hj208 s151.2 s151.1)
          · refine dn_iload (pc := 222) 0 dX13_orderDeed_222 rfl ?_
            exact dn_ret (Nat.le_of_ble_eq_true rfl) (Nat.le_of_ble_eq_true rfl) rfl dX13_orderDeed_224
      · refine dn_bipush (pc := 43) (v := -7) dX13_orderDeed_43 rfl ?_
        exact dn_ret (Nat.le_of_ble_eq_true rfl) (Nat.le_of_ble_eq_true rfl) rfl dX13_orderDeed_45
    · refine dn_iload_n (pc := 20) 0 dX13_orderDeed_20 rfl ?_
      exact dn_ret (Nat.le_of_ble_eq_true rfl) (Nat.le_of_ble_eq_true rfl) rfl dX13_orderDeed_21
  · refine dn_iconst (pc := 7) (v := -1) dX13_orderDeed_7 rfl ?_
    exact dn_ret (Nat.le_of_ble_eq_true rfl) (Nat.le_of_ble_eq_true rfl) rfl dX13_orderDeed_8
abbrev rmX13_rollDeed : Room := { frames := 3, cells := 0, slots := 0, locals := 68 }
def fX13_rollDeed_b51 (c0 : Option Nat) (c3 : Int32) (c5 : Int32) (c6 : Int32) (s51 : Int32) : dnM ((Int32) ⊕ (Unit)) :=
  if c6 ≤ s51 then
  (dnP (.inr ()))
  else
  (dnB (dnNz c6) fun _ =>
  dnB (dnNz c6) fun _ =>
  dnB (dnCv c0 11 (fX13_fromBy c0 s51 c5 (((s51 + (c3 - c3 / c6 * c6)) + c6) - ((s51 + (c3 - c3 / c6 * c6)) + c6) / c6 * c6))) fun _ =>
  dnP (.inl (s51 + 1)))
def fX13_rollDeed (r0 : Option Nat) (p1 : Int32) (p2 : Int32) (p3 : Int32) : dnM Int32 :=
  dnB (fX13_isGrid p1) fun v1 =>
  if v1 = true then
  (dnB (dnCv r0 11 (fX13_rowFault r0 p1 p2)) fun v2 =>
  if v2 = 0 then
  (dnB (dnCv r0 11 (fX13_held r0 p1 p2)) fun v3 =>
  dnB (dnGR r0 11 7) fun v4 =>
  dnB (dnAI v4 100 v3) fun v5 =>
  dnB (dnCv r0 11 (fX13_laysBy r0 v3)) fun _ =>
  dnB (dnIt 1000 (fX13_rollDeed_b51 r0 p3 v3 v5) 0) fun q51 =>
  dnP v5)
  else
  (dnP v2))
  else
  (dnP (-1))
abbrev jX13_rollDeed (w : dnWd) (x : dnX) (b : Nat) := dnD w x b (fun _ => True) cX13_rollDeed RX13 8 rmX13_rollDeed "rollDeed" eI
set_option maxHeartbeats 4000000 in
set_option maxRecDepth 100000 in
theorem mX13_rollDeed (w : dnWd) (x : dnX) (b : Nat) (r0 : Option Nat) (p1 : Int32) (p2 : Int32) (p3 : Int32) : dnMt w x b yX13_rollDeed cX13_rollDeed 8 (some .int) rmX13_rollDeed eI [dnV b r0, .int p1, .int p2, .int p3] (fX13_rollDeed r0 p1 p2 p3) := by
  have hlv : lv_args 0 [dnV b r0, .int p1, .int p2, .int p3] = [(0, dnV b r0), (1, .int p1), (2, .int p2), (3, .int p3)] := by cases r0 <;> rfl
  refine dn_mt (by decide +kernel) roI (by cases r0 <;> exact (Nat.le_of_ble_eq_true rfl)) ?_
  rw [hlv]
  refine dn_top ?_
  show jX13_rollDeed w x b 0 0 0 _ [] (dnB _ dnP)
  unfold fX13_rollDeed
  refine dn_iload_n (pc := 0) 1 dX13_rollDeed_0 rfl ?_
  refine dn_callS0Z (pc := 1) [.int p1]  kRX13_134 (mX13_isGrid w x b p1) rfl rfl (Nat.le_of_ble_eq_true rfl) ⟨(Nat.le_of_ble_eq_true rfl), (Nat.le_of_ble_eq_true rfl)⟩ ⟨rfl, rfl, (Nat.le_of_ble_eq_true rfl), (Nat.le_of_ble_eq_true rfl)⟩ dX13_rollDeed_1 (fun v1 => ?_)
  refine dn_ifz_ne (pc := 4) 9 dX13_rollDeed_4 rfl (fun _ => ?_) (fun _ => ?_)
  · refine dn_aload_n (pc := 9) r0 0 dX13_rollDeed_9 rfl ?_
    refine dn_iload_n (pc := 10) 1 dX13_rollDeed_10 rfl ?_
    refine dn_iload_n (pc := 11) 2 dX13_rollDeed_11 rfl ?_
    refine dn_callV0I (pc := 12) [.int p1, .int p2] r0 kRX13_131 (mX13_rowFault w x b r0 p1 p2) rfl rfl (Nat.le_of_ble_eq_true rfl) ⟨(Nat.le_of_ble_eq_true rfl), (Nat.le_of_ble_eq_true rfl)⟩ ⟨rfl, rfl, (Nat.le_of_ble_eq_true rfl), (Nat.le_of_ble_eq_true rfl)⟩ dX13_rollDeed_12 (fun v2 => ?_)
    refine dn_istore (pc := 15) dX13_rollDeed_15 (Nat.le_of_ble_eq_true rfl) (dnKp_nb 3 rfl rfl rfl (dnKp_of (lv2 := [(0, dnV b r0), (1, .int p1), (2, .int p2)]) [0, 1, 2] rfl rfl)) ?_
    refine dn_iload (pc := 17) 0 dX13_rollDeed_17 rfl ?_
    refine dn_if_eq (pc := 19) 25 dX13_rollDeed_19 rfl (fun _ => ?_) (fun _ => ?_)
    · refine dn_aload_n (pc := 25) r0 2 dX13_rollDeed_25 rfl ?_
      refine dn_iload_n (pc := 26) 3 dX13_rollDeed_26 rfl ?_
      refine dn_iload_n (pc := 27) 4 dX13_rollDeed_27 rfl ?_
      refine dn_callV0I (pc := 28) [.int p1, .int p2] r0 kRX13_128 (mX13_held w x b r0 p1 p2) rfl rfl (Nat.le_of_ble_eq_true rfl) ⟨(Nat.le_of_ble_eq_true rfl), (Nat.le_of_ble_eq_true rfl)⟩ ⟨rfl, rfl, (Nat.le_of_ble_eq_true rfl), (Nat.le_of_ble_eq_true rfl)⟩ dX13_rollDeed_28 (fun v3 => ?_)
      refine dn_istore (pc := 31) dX13_rollDeed_31 (Nat.le_of_ble_eq_true rfl) (dnKp_of (lv2 := [(3, .int p3), (0, dnV b r0)]) [1, 2] rfl rfl) ?_
      refine dn_aload_n (pc := 33) r0 2 dX13_rollDeed_33 rfl ?_
      refine dn_getR (pc := 34) r0 lRX13_26 dX13_rollDeed_34 (fun v4 => ?_)
      refine dn_iload (pc := 37) 0 dX13_rollDeed_37 rfl ?_
      refine dn_iald (pc := 39) v4 dX13_rollDeed_39 (fun v5 => ?_)
      refine dn_istore (pc := 40) dX13_rollDeed_40 (Nat.le_of_ble_eq_true rfl) (dnKp_nb 0 rfl rfl rfl (dnKp_of (lv2 := [(3, .int p3), (0, dnV b r0)]) [1, 2] rfl rfl)) ?_
      refine dn_aload_n (pc := 42) r0 3 dX13_rollDeed_42 rfl ?_
      refine dn_iload (pc := 43) 1 dX13_rollDeed_43 rfl ?_
      refine dn_callV0U (pc := 45) [.int v3] r0 kRX13_300 (mX13_laysBy w x b r0 v3) rfl rfl (Nat.le_of_ble_eq_true rfl) ⟨(Nat.le_of_ble_eq_true rfl), (Nat.le_of_ble_eq_true rfl)⟩ ⟨rfl, rfl, (Nat.le_of_ble_eq_true rfl), (Nat.le_of_ble_eq_true rfl)⟩ dX13_rollDeed_45 (fun _ => ?_)
      refine dn_iconst (pc := 48) (v := 0) dX13_rollDeed_48 rfl ?_
      refine dn_istore (pc := 49) dX13_rollDeed_49 (Nat.le_of_ble_eq_true rfl) (dnKp_nb 0 rfl rfl rfl (dnKp_of (lv2 := [(5, .int v3), (3, .int p3), (0, dnV b r0)]) [1, 2, 3] rfl rfl)) ?_
      refine dn_assoc ?_
      refine dn_lv [4, 3, 2, 1, 0] (lv2 := (fun s => [(0, dnV b r0), (3, .int p3), (5, .int v3), (6, .int v5), (7, .int s)]) 0) rfl ?_
      refine dn_loopE (pc := 51) (body := fX13_rollDeed_b51 r0 p3 v3 v5) 85 (fun s => [(0, dnV b r0), (3, .int p3), (5, .int v3), (6, .int v5), (7, .int s)]) (fun q => [(6, .int v5)]) (fun s51 K51 E51 hK51 hE51 => ?_) (fun q51 => ?_) 1000 0
      · unfold fX13_rollDeed_b51
        refine dn_iload (pc := 51) 4 dX13_rollDeed_51 rfl ?_
        refine dn_iload (pc := 53) 3 dX13_rollDeed_53 rfl ?_
        refine dn_icmp_ge (pc := 55) 85 dX13_rollDeed_55 rfl (fun _ => ?_) (fun _ => ?_)
        · refine dn_leaf ?_
          exact dn_lv [3] rfl (hE51 ())
        · refine dn_aload_n (pc := 58) r0 0 dX13_rollDeed_58 rfl ?_
          refine dn_iload (pc := 59) 4 dX13_rollDeed_59 rfl ?_
          refine dn_iload (pc := 61) 2 dX13_rollDeed_61 rfl ?_
          refine dn_iload (pc := 63) 4 dX13_rollDeed_63 rfl ?_
          refine dn_iload_n (pc := 65) 1 dX13_rollDeed_65 rfl ?_
          refine dn_iload (pc := 66) 3 dX13_rollDeed_66 rfl ?_
          refine dn_irem (pc := 68) dX13_rollDeed_68 ?_
          refine dn_iadd (pc := 69) dX13_rollDeed_69 ?_
          refine dn_iload (pc := 70) 3 dX13_rollDeed_70 rfl ?_
          refine dn_iadd (pc := 72) dX13_rollDeed_72 ?_
          refine dn_iload (pc := 73) 3 dX13_rollDeed_73 rfl ?_
          refine dn_irem (pc := 75) dX13_rollDeed_75 ?_
          refine dn_callV0U (pc := 76) [.int s51, .int v3, .int (((s51 + (p3 - p3 / v5 * v5)) + v5) - ((s51 + (p3 - p3 / v5 * v5)) + v5) / v5 * v5)] r0 kRX13_303 (mX13_fromBy w x b r0 s51 v3 (((s51 + (p3 - p3 / v5 * v5)) + v5) - ((s51 + (p3 - p3 / v5 * v5)) + v5) / v5 * v5)) rfl rfl (Nat.le_of_ble_eq_true rfl) ⟨(Nat.le_of_ble_eq_true rfl), (Nat.le_of_ble_eq_true rfl)⟩ ⟨rfl, rfl, (Nat.le_of_ble_eq_true rfl), (Nat.le_of_ble_eq_true rfl)⟩ dX13_rollDeed_76 (fun _ => ?_)
          refine dn_iinc (pc := 79) (s51 + 1) 4 dX13_rollDeed_79 rfl rfl (Nat.le_of_ble_eq_true rfl) (dnKp_nb 3 rfl rfl rfl (dnKp_of (lv2 := [(0, dnV b r0), (3, .int p3), (5, .int v3)]) [0, 1, 2] rfl rfl)) ?_
          refine dn_goto (pc := 82) 51 dX13_rollDeed_82 rfl ?_
          refine dn_leaf ?_
          exact dn_lv [2, 3, 4, 1, 0] rfl (hK51 (s51 + 1))
      · refine dn_iload (pc := 85) 0 dX13_rollDeed_85 rfl ?_
        exact dn_ret (Nat.le_of_ble_eq_true rfl) (Nat.le_of_ble_eq_true rfl) rfl dX13_rollDeed_87
    · refine dn_iload (pc := 22) 0 dX13_rollDeed_22 rfl ?_
      exact dn_ret (Nat.le_of_ble_eq_true rfl) (Nat.le_of_ble_eq_true rfl) rfl dX13_rollDeed_24
  · refine dn_iconst (pc := 7) (v := -1) dX13_rollDeed_7 rfl ?_
    exact dn_ret (Nat.le_of_ble_eq_true rfl) (Nat.le_of_ble_eq_true rfl) rfl dX13_rollDeed_8
abbrev rmX13_rowDeed : Room := { frames := 2, cells := 0, slots := 0, locals := 47 }
def fX13_rowDeed (r0 : Option Nat) (p1 : Int32) (p2 : Int32) (p3 : Int32) (p4 : Int32) : dnM Int32 :=
  dnB (fX13_isGrid p1) fun v1 =>
  if v1 = true then
  (dnB (fX13_isKind p3) fun v2 =>
  if v2 = true then
  (if p4 ≤ 12 then
  (dnB (dnCv r0 11 (fX13_placeFault r0 p1 p2)) fun v3 =>
  if v3 = 0 then
  (if 0 ≤ p4 then
  (dnB (dnCv r0 11 (fX13_newRow r0 p3 p4)) fun v4 =>
  dnB (dnCv r0 11 (fX13_holdsNow r0 p1 p2 v4)) fun _ =>
  dnP p4)
  else
  (dnP (-8)))
  else
  (dnP v3))
  else
  (dnP (-1)))
  else
  (dnP (-1)))
  else
  (dnP (-1))
abbrev jX13_rowDeed (w : dnWd) (x : dnX) (b : Nat) := dnD w x b (fun _ => True) cX13_rowDeed RX13 6 rmX13_rowDeed "rowDeed" eI
set_option maxHeartbeats 4000000 in
set_option maxRecDepth 100000 in
theorem mX13_rowDeed (w : dnWd) (x : dnX) (b : Nat) (r0 : Option Nat) (p1 : Int32) (p2 : Int32) (p3 : Int32) (p4 : Int32) : dnMt w x b yX13_rowDeed cX13_rowDeed 6 (some .int) rmX13_rowDeed eI [dnV b r0, .int p1, .int p2, .int p3, .int p4] (fX13_rowDeed r0 p1 p2 p3 p4) := by
  have hlv : lv_args 0 [dnV b r0, .int p1, .int p2, .int p3, .int p4] = [(0, dnV b r0), (1, .int p1), (2, .int p2), (3, .int p3), (4, .int p4)] := by cases r0 <;> rfl
  refine dn_mt (by decide +kernel) roI (by cases r0 <;> exact (Nat.le_of_ble_eq_true rfl)) ?_
  rw [hlv]
  refine dn_top ?_
  show jX13_rowDeed w x b 0 0 0 _ [] (dnB _ dnP)
  unfold fX13_rowDeed
  refine dn_iload_n (pc := 0) 1 dX13_rowDeed_0 rfl ?_
  refine dn_callS0Z (pc := 1) [.int p1]  kRX13_134 (mX13_isGrid w x b p1) rfl rfl (Nat.le_of_ble_eq_true rfl) ⟨(Nat.le_of_ble_eq_true rfl), (Nat.le_of_ble_eq_true rfl)⟩ ⟨rfl, rfl, (Nat.le_of_ble_eq_true rfl), (Nat.le_of_ble_eq_true rfl)⟩ dX13_rowDeed_1 (fun v1 => ?_)
  refine dn_ifz_eq (pc := 4) 21 dX13_rowDeed_4 rfl (fun _ => ?_) (fun _ => ?_)
  · refine dn_iload_n (pc := 7) 3 dX13_rowDeed_7 rfl ?_
    refine dn_callS0Z (pc := 8) [.int p3]  kRX13_152 (mX13_isKind w x b p3) rfl rfl (Nat.le_of_ble_eq_true rfl) ⟨(Nat.le_of_ble_eq_true rfl), (Nat.le_of_ble_eq_true rfl)⟩ ⟨rfl, rfl, (Nat.le_of_ble_eq_true rfl), (Nat.le_of_ble_eq_true rfl)⟩ dX13_rowDeed_8 (fun v2 => ?_)
    refine dn_ifz_eq (pc := 11) 21 dX13_rowDeed_11 rfl (fun _ => ?_) (fun _ => ?_)
    · refine dn_iload (pc := 14) 4 dX13_rowDeed_14 rfl ?_
      refine dn_bipush (pc := 16) (v := 12) dX13_rowDeed_16 rfl ?_
      refine dn_icmp_le (pc := 18) 23 dX13_rowDeed_18 rfl (fun _ => ?_) (fun _ => ?_)
      · refine dn_aload_n (pc := 23) r0 0 dX13_rowDeed_23 rfl ?_
        refine dn_iload_n (pc := 24) 1 dX13_rowDeed_24 rfl ?_
        refine dn_iload_n (pc := 25) 2 dX13_rowDeed_25 rfl ?_
        refine dn_callV0I (pc := 26) [.int p1, .int p2] r0 kRX13_124 (mX13_placeFault w x b r0 p1 p2) rfl rfl (Nat.le_of_ble_eq_true rfl) ⟨(Nat.le_of_ble_eq_true rfl), (Nat.le_of_ble_eq_true rfl)⟩ ⟨rfl, rfl, (Nat.le_of_ble_eq_true rfl), (Nat.le_of_ble_eq_true rfl)⟩ dX13_rowDeed_26 (fun v3 => ?_)
        refine dn_istore (pc := 29) dX13_rowDeed_29 (Nat.le_of_ble_eq_true rfl) (dnKp_nb 4 rfl rfl rfl (dnKp_of (lv2 := [(0, dnV b r0), (1, .int p1), (2, .int p2), (3, .int p3)]) [0, 1, 2, 3] rfl rfl)) ?_
        refine dn_iload (pc := 31) 0 dX13_rowDeed_31 rfl ?_
        refine dn_if_eq (pc := 33) 39 dX13_rowDeed_33 rfl (fun _ => ?_) (fun _ => ?_)
        · refine dn_iload (pc := 39) 1 dX13_rowDeed_39 rfl ?_
          refine dn_if_ge (pc := 41) 47 dX13_rowDeed_41 rfl (fun _ => ?_) (fun _ => ?_)
          · refine dn_aload_n (pc := 47) r0 2 dX13_rowDeed_47 rfl ?_
            refine dn_iload_n (pc := 48) 3 dX13_rowDeed_48 rfl ?_
            refine dn_iload_n (pc := 49) 4 dX13_rowDeed_49 rfl ?_
            refine dn_aload_n (pc := 50) r0 2 dX13_rowDeed_50 rfl ?_
            refine dn_iload_n (pc := 51) 5 dX13_rowDeed_51 rfl ?_
            refine dn_iload (pc := 52) 1 dX13_rowDeed_52 rfl ?_
            refine dn_callV0I (pc := 54) [.int p3, .int p4] r0 kRX13_155 (mX13_newRow w x b r0 p3 p4) rfl rfl (Nat.le_of_ble_eq_true rfl) ⟨(Nat.le_of_ble_eq_true rfl), (Nat.le_of_ble_eq_true rfl)⟩ ⟨rfl, rfl, (Nat.le_of_ble_eq_true rfl), (Nat.le_of_ble_eq_true rfl)⟩ dX13_rowDeed_54 (fun v4 => ?_)
            refine dn_callV0U (pc := 57) [.int p1, .int p2, .int v4] r0 kRX13_145 (mX13_holdsNow w x b r0 p1 p2 v4) rfl rfl (Nat.le_of_ble_eq_true rfl) ⟨(Nat.le_of_ble_eq_true rfl), (Nat.le_of_ble_eq_true rfl)⟩ ⟨rfl, rfl, (Nat.le_of_ble_eq_true rfl), (Nat.le_of_ble_eq_true rfl)⟩ dX13_rowDeed_57 (fun _ => ?_)
            refine dn_iload (pc := 60) 1 dX13_rowDeed_60 rfl ?_
            exact dn_ret (Nat.le_of_ble_eq_true rfl) (Nat.le_of_ble_eq_true rfl) rfl dX13_rowDeed_62
          · refine dn_bipush (pc := 44) (v := -8) dX13_rowDeed_44 rfl ?_
            exact dn_ret (Nat.le_of_ble_eq_true rfl) (Nat.le_of_ble_eq_true rfl) rfl dX13_rowDeed_46
        · refine dn_iload (pc := 36) 0 dX13_rowDeed_36 rfl ?_
          exact dn_ret (Nat.le_of_ble_eq_true rfl) (Nat.le_of_ble_eq_true rfl) rfl dX13_rowDeed_38
      · refine dn_iconst (pc := 21) (v := -1) dX13_rowDeed_21 rfl ?_
        exact dn_ret (Nat.le_of_ble_eq_true rfl) (Nat.le_of_ble_eq_true rfl) rfl dX13_rowDeed_22
    · refine dn_iconst (pc := 21) (v := -1) dX13_rowDeed_21 rfl ?_
      exact dn_ret (Nat.le_of_ble_eq_true rfl) (Nat.le_of_ble_eq_true rfl) rfl dX13_rowDeed_22
  · refine dn_iconst (pc := 21) (v := -1) dX13_rowDeed_21 rfl ?_
    exact dn_ret (Nat.le_of_ble_eq_true rfl) (Nat.le_of_ble_eq_true rfl) rfl dX13_rowDeed_22
abbrev rmX13_twoPlaces : Room := { frames := 2, cells := 0, slots := 0, locals := 44 }
def fX13_twoPlaces (r0 : Option Nat) (p1 : Int32) (p2 : Int32) (p3 : Int32) (p4 : Int32) : dnM Int32 :=
  dnB (dnCv r0 11 (fX13_placeFault r0 p1 p2)) fun v1 =>
  if v1 = 0 then
  (dnB (dnCv r0 11 (fX13_placeFault r0 p3 p4)) fun v2 =>
  dnP v2)
  else
  (dnP v1)
abbrev jX13_twoPlaces (w : dnWd) (x : dnX) (b : Nat) := dnD w x b (fun _ => True) cX13_twoPlaces RX13 6 rmX13_twoPlaces "twoPlaces" eI
set_option maxHeartbeats 4000000 in
set_option maxRecDepth 100000 in
theorem mX13_twoPlaces (w : dnWd) (x : dnX) (b : Nat) (r0 : Option Nat) (p1 : Int32) (p2 : Int32) (p3 : Int32) (p4 : Int32) : dnMt w x b yX13_twoPlaces cX13_twoPlaces 6 (some .int) rmX13_twoPlaces eI [dnV b r0, .int p1, .int p2, .int p3, .int p4] (fX13_twoPlaces r0 p1 p2 p3 p4) := by
  have hlv : lv_args 0 [dnV b r0, .int p1, .int p2, .int p3, .int p4] = [(0, dnV b r0), (1, .int p1), (2, .int p2), (3, .int p3), (4, .int p4)] := by cases r0 <;> rfl
  refine dn_mt (by decide +kernel) roI (by cases r0 <;> exact (Nat.le_of_ble_eq_true rfl)) ?_
  rw [hlv]
  refine dn_top ?_
  show jX13_twoPlaces w x b 0 0 0 _ [] (dnB _ dnP)
  unfold fX13_twoPlaces
  refine dn_aload_n (pc := 0) r0 0 dX13_twoPlaces_0 rfl ?_
  refine dn_iload_n (pc := 1) 1 dX13_twoPlaces_1 rfl ?_
  refine dn_iload_n (pc := 2) 2 dX13_twoPlaces_2 rfl ?_
  refine dn_callV0I (pc := 3) [.int p1, .int p2] r0 kRX13_124 (mX13_placeFault w x b r0 p1 p2) rfl rfl (Nat.le_of_ble_eq_true rfl) ⟨(Nat.le_of_ble_eq_true rfl), (Nat.le_of_ble_eq_true rfl)⟩ ⟨rfl, rfl, (Nat.le_of_ble_eq_true rfl), (Nat.le_of_ble_eq_true rfl)⟩ dX13_twoPlaces_3 (fun v1 => ?_)
  refine dn_istore (pc := 6) dX13_twoPlaces_6 (Nat.le_of_ble_eq_true rfl) (dnKp_nb 4 rfl rfl rfl (dnKp_of (lv2 := [(0, dnV b r0), (3, .int p3)]) [0, 3] rfl rfl)) ?_
  refine dn_iload (pc := 8) 0 dX13_twoPlaces_8 rfl ?_
  refine dn_if_eq (pc := 10) 18 dX13_twoPlaces_10 rfl (fun _ => ?_) (fun _ => ?_)
  · refine dn_aload_n (pc := 18) r0 2 dX13_twoPlaces_18 rfl ?_
    refine dn_iload_n (pc := 19) 3 dX13_twoPlaces_19 rfl ?_
    refine dn_iload (pc := 20) 1 dX13_twoPlaces_20 rfl ?_
    refine dn_callV0I (pc := 22) [.int p3, .int p4] r0 kRX13_124 (mX13_placeFault w x b r0 p3 p4) rfl rfl (Nat.le_of_ble_eq_true rfl) ⟨(Nat.le_of_ble_eq_true rfl), (Nat.le_of_ble_eq_true rfl)⟩ ⟨rfl, rfl, (Nat.le_of_ble_eq_true rfl), (Nat.le_of_ble_eq_true rfl)⟩ dX13_twoPlaces_22 (fun v2 => ?_)
    exact dn_ret (Nat.le_of_ble_eq_true rfl) (Nat.le_of_ble_eq_true rfl) rfl dX13_twoPlaces_25
  · refine dn_iload (pc := 13) 0 dX13_twoPlaces_13 rfl ?_
    refine dn_goto (pc := 15) 25 dX13_twoPlaces_15 rfl ?_
    exact dn_ret (Nat.le_of_ble_eq_true rfl) (Nat.le_of_ble_eq_true rfl) rfl dX13_twoPlaces_25
abbrev rmX13_shareDeed : Room := { frames := 3, cells := 0, slots := 0, locals := 69 }
def fX13_shareDeed (r0 : Option Nat) (p1 : Int32) (p2 : Int32) (p3 : Int32) (p4 : Int32) : dnM Int32 :=
  dnB (fX13_isGrid p1) fun v1 =>
  if v1 = true then
  (dnB (fX13_isGrid p3) fun v2 =>
  if v2 = true then
  (dnB (dnCv r0 11 (fX13_twoPlaces r0 p1 p2 p3 p4)) fun v3 =>
  if v3 = 0 then
  (dnB (dnCv r0 11 (fX13_held r0 p1 p2)) fun v4 =>
  dnB (dnCv r0 11 (fX13_holdsNow r0 p3 p4 v4)) fun _ =>
  dnB (dnCv r0 11 (fX13_holdsOf r0 p3 p4)) fun v6 =>
  dnP v6)
  else
  (dnP v3))
  else
  (dnP (-1)))
  else
  (dnP (-1))
abbrev jX13_shareDeed (w : dnWd) (x : dnX) (b : Nat) := dnD w x b (fun _ => True) cX13_shareDeed RX13 6 rmX13_shareDeed "shareDeed" eI
set_option maxHeartbeats 4000000 in
set_option maxRecDepth 100000 in
theorem mX13_shareDeed (w : dnWd) (x : dnX) (b : Nat) (r0 : Option Nat) (p1 : Int32) (p2 : Int32) (p3 : Int32) (p4 : Int32) : dnMt w x b yX13_shareDeed cX13_shareDeed 6 (some .int) rmX13_shareDeed eI [dnV b r0, .int p1, .int p2, .int p3, .int p4] (fX13_shareDeed r0 p1 p2 p3 p4) := by
  have hlv : lv_args 0 [dnV b r0, .int p1, .int p2, .int p3, .int p4] = [(0, dnV b r0), (1, .int p1), (2, .int p2), (3, .int p3), (4, .int p4)] := by cases r0 <;> rfl
  refine dn_mt (by decide +kernel) roI (by cases r0 <;> exact (Nat.le_of_ble_eq_true rfl)) ?_
  rw [hlv]
  refine dn_top ?_
  show jX13_shareDeed w x b 0 0 0 _ [] (dnB _ dnP)
  unfold fX13_shareDeed
  refine dn_iload_n (pc := 0) 1 dX13_shareDeed_0 rfl ?_
  refine dn_callS0Z (pc := 1) [.int p1]  kRX13_134 (mX13_isGrid w x b p1) rfl rfl (Nat.le_of_ble_eq_true rfl) ⟨(Nat.le_of_ble_eq_true rfl), (Nat.le_of_ble_eq_true rfl)⟩ ⟨rfl, rfl, (Nat.le_of_ble_eq_true rfl), (Nat.le_of_ble_eq_true rfl)⟩ dX13_shareDeed_1 (fun v1 => ?_)
  refine dn_ifz_eq (pc := 4) 14 dX13_shareDeed_4 rfl (fun _ => ?_) (fun _ => ?_)
  · refine dn_iload_n (pc := 7) 3 dX13_shareDeed_7 rfl ?_
    refine dn_callS0Z (pc := 8) [.int p3]  kRX13_134 (mX13_isGrid w x b p3) rfl rfl (Nat.le_of_ble_eq_true rfl) ⟨(Nat.le_of_ble_eq_true rfl), (Nat.le_of_ble_eq_true rfl)⟩ ⟨rfl, rfl, (Nat.le_of_ble_eq_true rfl), (Nat.le_of_ble_eq_true rfl)⟩ dX13_shareDeed_8 (fun v2 => ?_)
    refine dn_ifz_ne (pc := 11) 16 dX13_shareDeed_11 rfl (fun _ => ?_) (fun _ => ?_)
    · refine dn_aload_n (pc := 16) r0 0 dX13_shareDeed_16 rfl ?_
      refine dn_iload_n (pc := 17) 1 dX13_shareDeed_17 rfl ?_
      refine dn_iload_n (pc := 18) 2 dX13_shareDeed_18 rfl ?_
      refine dn_iload_n (pc := 19) 3 dX13_shareDeed_19 rfl ?_
      refine dn_iload (pc := 20) 4 dX13_shareDeed_20 rfl ?_
      refine dn_callV0I (pc := 22) [.int p1, .int p2, .int p3, .int p4] r0 kRX13_166 (mX13_twoPlaces w x b r0 p1 p2 p3 p4) rfl rfl (Nat.le_of_ble_eq_true rfl) ⟨(Nat.le_of_ble_eq_true rfl), (Nat.le_of_ble_eq_true rfl)⟩ ⟨rfl, rfl, (Nat.le_of_ble_eq_true rfl), (Nat.le_of_ble_eq_true rfl)⟩ dX13_shareDeed_22 (fun v3 => ?_)
      refine dn_istore (pc := 25) dX13_shareDeed_25 (Nat.le_of_ble_eq_true rfl) (dnKp_nb 4 rfl rfl rfl (dnKp_of (lv2 := [(0, dnV b r0), (1, .int p1), (2, .int p2), (3, .int p3)]) [0, 1, 2, 3] rfl rfl)) ?_
      refine dn_iload (pc := 27) 0 dX13_shareDeed_27 rfl ?_
      refine dn_if_eq (pc := 29) 35 dX13_shareDeed_29 rfl (fun _ => ?_) (fun _ => ?_)
      · refine dn_aload_n (pc := 35) r0 2 dX13_shareDeed_35 rfl ?_
        refine dn_iload_n (pc := 36) 5 dX13_shareDeed_36 rfl ?_
        refine dn_iload (pc := 37) 1 dX13_shareDeed_37 rfl ?_
        refine dn_aload_n (pc := 39) r0 2 dX13_shareDeed_39 rfl ?_
        refine dn_iload_n (pc := 40) 3 dX13_shareDeed_40 rfl ?_
        refine dn_iload_n (pc := 41) 4 dX13_shareDeed_41 rfl ?_
        refine dn_callV0I (pc := 42) [.int p1, .int p2] r0 kRX13_128 (mX13_held w x b r0 p1 p2) rfl rfl (Nat.le_of_ble_eq_true rfl) ⟨(Nat.le_of_ble_eq_true rfl), (Nat.le_of_ble_eq_true rfl)⟩ ⟨rfl, rfl, (Nat.le_of_ble_eq_true rfl), (Nat.le_of_ble_eq_true rfl)⟩ dX13_shareDeed_42 (fun v4 => ?_)
        refine dn_callV0U (pc := 45) [.int p3, .int p4, .int v4] r0 kRX13_145 (mX13_holdsNow w x b r0 p3 p4 v4) rfl rfl (Nat.le_of_ble_eq_true rfl) ⟨(Nat.le_of_ble_eq_true rfl), (Nat.le_of_ble_eq_true rfl)⟩ ⟨rfl, rfl, (Nat.le_of_ble_eq_true rfl), (Nat.le_of_ble_eq_true rfl)⟩ dX13_shareDeed_45 (fun _ => ?_)
        refine dn_aload_n (pc := 48) r0 2 dX13_shareDeed_48 rfl ?_
        refine dn_iload_n (pc := 49) 5 dX13_shareDeed_49 rfl ?_
        refine dn_iload (pc := 50) 1 dX13_shareDeed_50 rfl ?_
        refine dn_callV0I (pc := 52) [.int p3, .int p4] r0 kRX13_169 (mX13_holdsOf w x b r0 p3 p4) rfl rfl (Nat.le_of_ble_eq_true rfl) ⟨(Nat.le_of_ble_eq_true rfl), (Nat.le_of_ble_eq_true rfl)⟩ ⟨rfl, rfl, (Nat.le_of_ble_eq_true rfl), (Nat.le_of_ble_eq_true rfl)⟩ dX13_shareDeed_52 (fun v6 => ?_)
        exact dn_ret (Nat.le_of_ble_eq_true rfl) (Nat.le_of_ble_eq_true rfl) rfl dX13_shareDeed_55
      · refine dn_iload (pc := 32) 0 dX13_shareDeed_32 rfl ?_
        exact dn_ret (Nat.le_of_ble_eq_true rfl) (Nat.le_of_ble_eq_true rfl) rfl dX13_shareDeed_34
    · refine dn_iconst (pc := 14) (v := -1) dX13_shareDeed_14 rfl ?_
      exact dn_ret (Nat.le_of_ble_eq_true rfl) (Nat.le_of_ble_eq_true rfl) rfl dX13_shareDeed_15
  · refine dn_iconst (pc := 14) (v := -1) dX13_shareDeed_14 rfl ?_
    exact dn_ret (Nat.le_of_ble_eq_true rfl) (Nat.le_of_ble_eq_true rfl) rfl dX13_shareDeed_15
abbrev rmX13_swapDeed : Room := { frames := 3, cells := 0, slots := 0, locals := 69 }
def fX13_swapDeed (r0 : Option Nat) (p1 : Int32) (p2 : Int32) (p3 : Int32) (p4 : Int32) : dnM Int32 :=
  dnB (fX13_isGrid p1) fun v1 =>
  if v1 = true then
  (dnB (fX13_isGrid p3) fun v2 =>
  if v2 = true then
  (dnB (dnCv r0 11 (fX13_twoPlaces r0 p1 p2 p3 p4)) fun v3 =>
  if v3 = 0 then
  (dnB (dnCv r0 11 (fX13_held r0 p1 p2)) fun v4 =>
  dnB (dnCv r0 11 (fX13_held r0 p3 p4)) fun v5 =>
  dnB (dnCv r0 11 (fX13_holdsNow r0 p1 p2 v5)) fun _ =>
  dnB (dnCv r0 11 (fX13_holdsNow r0 p3 p4 v4)) fun _ =>
  dnB (dnCv r0 11 (fX13_holdsOf r0 p1 p2)) fun v8 =>
  dnP v8)
  else
  (dnP v3))
  else
  (dnP (-1)))
  else
  (dnP (-1))
abbrev jX13_swapDeed (w : dnWd) (x : dnX) (b : Nat) := dnD w x b (fun _ => True) cX13_swapDeed RX13 7 rmX13_swapDeed "swapDeed" eI
set_option maxHeartbeats 4000000 in
set_option maxRecDepth 100000 in
theorem mX13_swapDeed (w : dnWd) (x : dnX) (b : Nat) (r0 : Option Nat) (p1 : Int32) (p2 : Int32) (p3 : Int32) (p4 : Int32) : dnMt w x b yX13_swapDeed cX13_swapDeed 7 (some .int) rmX13_swapDeed eI [dnV b r0, .int p1, .int p2, .int p3, .int p4] (fX13_swapDeed r0 p1 p2 p3 p4) := by
  have hlv : lv_args 0 [dnV b r0, .int p1, .int p2, .int p3, .int p4] = [(0, dnV b r0), (1, .int p1), (2, .int p2), (3, .int p3), (4, .int p4)] := by cases r0 <;> rfl
  refine dn_mt (by decide +kernel) roI (by cases r0 <;> exact (Nat.le_of_ble_eq_true rfl)) ?_
  rw [hlv]
  refine dn_top ?_
  show jX13_swapDeed w x b 0 0 0 _ [] (dnB _ dnP)
  unfold fX13_swapDeed
  refine dn_iload_n (pc := 0) 1 dX13_swapDeed_0 rfl ?_
  refine dn_callS0Z (pc := 1) [.int p1]  kRX13_134 (mX13_isGrid w x b p1) rfl rfl (Nat.le_of_ble_eq_true rfl) ⟨(Nat.le_of_ble_eq_true rfl), (Nat.le_of_ble_eq_true rfl)⟩ ⟨rfl, rfl, (Nat.le_of_ble_eq_true rfl), (Nat.le_of_ble_eq_true rfl)⟩ dX13_swapDeed_1 (fun v1 => ?_)
  refine dn_ifz_eq (pc := 4) 14 dX13_swapDeed_4 rfl (fun _ => ?_) (fun _ => ?_)
  · refine dn_iload_n (pc := 7) 3 dX13_swapDeed_7 rfl ?_
    refine dn_callS0Z (pc := 8) [.int p3]  kRX13_134 (mX13_isGrid w x b p3) rfl rfl (Nat.le_of_ble_eq_true rfl) ⟨(Nat.le_of_ble_eq_true rfl), (Nat.le_of_ble_eq_true rfl)⟩ ⟨rfl, rfl, (Nat.le_of_ble_eq_true rfl), (Nat.le_of_ble_eq_true rfl)⟩ dX13_swapDeed_8 (fun v2 => ?_)
    refine dn_ifz_ne (pc := 11) 16 dX13_swapDeed_11 rfl (fun _ => ?_) (fun _ => ?_)
    · refine dn_aload_n (pc := 16) r0 0 dX13_swapDeed_16 rfl ?_
      refine dn_iload_n (pc := 17) 1 dX13_swapDeed_17 rfl ?_
      refine dn_iload_n (pc := 18) 2 dX13_swapDeed_18 rfl ?_
      refine dn_iload_n (pc := 19) 3 dX13_swapDeed_19 rfl ?_
      refine dn_iload (pc := 20) 4 dX13_swapDeed_20 rfl ?_
      refine dn_callV0I (pc := 22) [.int p1, .int p2, .int p3, .int p4] r0 kRX13_166 (mX13_twoPlaces w x b r0 p1 p2 p3 p4) rfl rfl (Nat.le_of_ble_eq_true rfl) ⟨(Nat.le_of_ble_eq_true rfl), (Nat.le_of_ble_eq_true rfl)⟩ ⟨rfl, rfl, (Nat.le_of_ble_eq_true rfl), (Nat.le_of_ble_eq_true rfl)⟩ dX13_swapDeed_22 (fun v3 => ?_)
      refine dn_istore (pc := 25) dX13_swapDeed_25 (Nat.le_of_ble_eq_true rfl) (dnKp_nb 4 rfl rfl rfl (dnKp_of (lv2 := [(0, dnV b r0), (1, .int p1), (2, .int p2), (3, .int p3)]) [0, 1, 2, 3] rfl rfl)) ?_
      refine dn_iload (pc := 27) 0 dX13_swapDeed_27 rfl ?_
      refine dn_if_eq (pc := 29) 35 dX13_swapDeed_29 rfl (fun _ => ?_) (fun _ => ?_)
      · refine dn_aload_n (pc := 35) r0 2 dX13_swapDeed_35 rfl ?_
        refine dn_iload_n (pc := 36) 3 dX13_swapDeed_36 rfl ?_
        refine dn_iload_n (pc := 37) 4 dX13_swapDeed_37 rfl ?_
        refine dn_callV0I (pc := 38) [.int p1, .int p2] r0 kRX13_128 (mX13_held w x b r0 p1 p2) rfl rfl (Nat.le_of_ble_eq_true rfl) ⟨(Nat.le_of_ble_eq_true rfl), (Nat.le_of_ble_eq_true rfl)⟩ ⟨rfl, rfl, (Nat.le_of_ble_eq_true rfl), (Nat.le_of_ble_eq_true rfl)⟩ dX13_swapDeed_38 (fun v4 => ?_)
        refine dn_istore (pc := 41) dX13_swapDeed_41 (Nat.le_of_ble_eq_true rfl) (dnKp_of (lv2 := [(4, .int p4), (0, dnV b r0), (1, .int p1), (2, .int p2), (3, .int p3)]) [1, 2, 3, 4, 5] rfl rfl) ?_
        refine dn_aload_n (pc := 43) r0 2 dX13_swapDeed_43 rfl ?_
        refine dn_iload_n (pc := 44) 3 dX13_swapDeed_44 rfl ?_
        refine dn_iload_n (pc := 45) 4 dX13_swapDeed_45 rfl ?_
        refine dn_aload_n (pc := 46) r0 2 dX13_swapDeed_46 rfl ?_
        refine dn_iload_n (pc := 47) 5 dX13_swapDeed_47 rfl ?_
        refine dn_iload (pc := 48) 1 dX13_swapDeed_48 rfl ?_
        refine dn_callV0I (pc := 50) [.int p3, .int p4] r0 kRX13_128 (mX13_held w x b r0 p3 p4) rfl rfl (Nat.le_of_ble_eq_true rfl) ⟨(Nat.le_of_ble_eq_true rfl), (Nat.le_of_ble_eq_true rfl)⟩ ⟨rfl, rfl, (Nat.le_of_ble_eq_true rfl), (Nat.le_of_ble_eq_true rfl)⟩ dX13_swapDeed_50 (fun v5 => ?_)
        refine dn_callV0U (pc := 53) [.int p1, .int p2, .int v5] r0 kRX13_145 (mX13_holdsNow w x b r0 p1 p2 v5) rfl rfl (Nat.le_of_ble_eq_true rfl) ⟨(Nat.le_of_ble_eq_true rfl), (Nat.le_of_ble_eq_true rfl)⟩ ⟨rfl, rfl, (Nat.le_of_ble_eq_true rfl), (Nat.le_of_ble_eq_true rfl)⟩ dX13_swapDeed_53 (fun _ => ?_)
        refine dn_aload_n (pc := 56) r0 2 dX13_swapDeed_56 rfl ?_
        refine dn_iload_n (pc := 57) 5 dX13_swapDeed_57 rfl ?_
        refine dn_iload (pc := 58) 1 dX13_swapDeed_58 rfl ?_
        refine dn_iload (pc := 60) 0 dX13_swapDeed_60 rfl ?_
        refine dn_callV0U (pc := 62) [.int p3, .int p4, .int v4] r0 kRX13_145 (mX13_holdsNow w x b r0 p3 p4 v4) rfl rfl (Nat.le_of_ble_eq_true rfl) ⟨(Nat.le_of_ble_eq_true rfl), (Nat.le_of_ble_eq_true rfl)⟩ ⟨rfl, rfl, (Nat.le_of_ble_eq_true rfl), (Nat.le_of_ble_eq_true rfl)⟩ dX13_swapDeed_62 (fun _ => ?_)
        refine dn_aload_n (pc := 65) r0 2 dX13_swapDeed_65 rfl ?_
        refine dn_iload_n (pc := 66) 3 dX13_swapDeed_66 rfl ?_
        refine dn_iload_n (pc := 67) 4 dX13_swapDeed_67 rfl ?_
        refine dn_callV0I (pc := 68) [.int p1, .int p2] r0 kRX13_169 (mX13_holdsOf w x b r0 p1 p2) rfl rfl (Nat.le_of_ble_eq_true rfl) ⟨(Nat.le_of_ble_eq_true rfl), (Nat.le_of_ble_eq_true rfl)⟩ ⟨rfl, rfl, (Nat.le_of_ble_eq_true rfl), (Nat.le_of_ble_eq_true rfl)⟩ dX13_swapDeed_68 (fun v8 => ?_)
        exact dn_ret (Nat.le_of_ble_eq_true rfl) (Nat.le_of_ble_eq_true rfl) rfl dX13_swapDeed_71
      · refine dn_iload (pc := 32) 0 dX13_swapDeed_32 rfl ?_
        exact dn_ret (Nat.le_of_ble_eq_true rfl) (Nat.le_of_ble_eq_true rfl) rfl dX13_swapDeed_34
    · refine dn_iconst (pc := 14) (v := -1) dX13_swapDeed_14 rfl ?_
      exact dn_ret (Nat.le_of_ble_eq_true rfl) (Nat.le_of_ble_eq_true rfl) rfl dX13_swapDeed_15
  · refine dn_iconst (pc := 14) (v := -1) dX13_swapDeed_14 rfl ?_
    exact dn_ret (Nat.le_of_ble_eq_true rfl) (Nat.le_of_ble_eq_true rfl) rfl dX13_swapDeed_15
abbrev rmX13_longest : Room := { frames := 2, cells := 0, slots := 0, locals := 44 }
def fX13_longest_j53 (l0 : Option Nat) (l1 : Int32) (l3 : Int32) (s0 : Int32) : dnM ((Int32 × Int32) ⊕ (Int32)) :=
  dnP (.inl (s0, (l3 + 1)))
def fX13_longest_j52 (l0 : Option Nat) (l1 : Int32) (l2 : Int32) (l3 : Int32) : dnM ((Int32 × Int32) ⊕ (Int32)) :=
  fX13_longest_j53 l0 l1 l3 l2
def fX13_longest_b4 (c0 : Option Nat) (c1 : Int32) (s4 : Int32 × Int32) : dnM ((Int32 × Int32) ⊕ (Int32)) :=
  dnB (dnGR c0 11 4) fun v1 =>
  dnB (dnAI v1 100 c1) fun v2 =>
  if v2 ≤ s4.2 then
  (dnP (.inr s4.1))
  else
  (dnB (dnCv c0 11 (fX13_isRow c0 c1 s4.2)) fun v3 =>
  if v3 = true then
  (dnB (dnGR c0 11 7) fun v4 =>
  dnB (dnCv c0 11 (fX13_held c0 c1 s4.2)) fun v5 =>
  dnB (dnAI v4 100 v5) fun v6 =>
  if v6 ≤ s4.1 then
  (fX13_longest_j52 c0 c1 s4.1 s4.2)
  else
  (dnB (dnGR c0 11 7) fun v7 =>
  dnB (dnCv c0 11 (fX13_held c0 c1 s4.2)) fun v8 =>
  dnB (dnAI v7 100 v8) fun v9 =>
  fX13_longest_j53 c0 c1 s4.2 v9))
  else
  (fX13_longest_j52 c0 c1 s4.1 s4.2))
def fX13_longest (r0 : Option Nat) (p1 : Int32) : dnM Int32 :=
  dnB (dnIt 1000 (fX13_longest_b4 r0 p1) (0, 0)) fun q4 =>
  dnP q4
abbrev jX13_longest (w : dnWd) (x : dnX) (b : Nat) := dnD w x b (fun _ => True) cX13_longest RX13 4 rmX13_longest "longest" eI
set_option maxHeartbeats 4000000 in
set_option maxRecDepth 100000 in
theorem mX13_longest (w : dnWd) (x : dnX) (b : Nat) (r0 : Option Nat) (p1 : Int32) : dnMt w x b yX13_longest cX13_longest 4 (some .int) rmX13_longest eI [dnV b r0, .int p1] (fX13_longest r0 p1) := by
  have hlv : lv_args 0 [dnV b r0, .int p1] = [(0, dnV b r0), (1, .int p1)] := by cases r0 <;> rfl
  refine dn_mt (by decide +kernel) roI (by cases r0 <;> exact (Nat.le_of_ble_eq_true rfl)) ?_
  rw [hlv]
  refine dn_top ?_
  show jX13_longest w x b 0 0 0 _ [] (dnB _ dnP)
  unfold fX13_longest
  refine dn_iconst (pc := 0) (v := 0) dX13_longest_0 rfl ?_
  refine dn_istore_n (pc := 1) dX13_longest_1 (Nat.le_of_ble_eq_true rfl) (dnKp_nb 1 rfl rfl rfl (dnKp_of (lv2 := [(0, dnV b r0)]) [0] rfl rfl)) ?_
  refine dn_iconst (pc := 2) (v := 0) dX13_longest_2 rfl ?_
  refine dn_istore_n (pc := 3) dX13_longest_3 (Nat.le_of_ble_eq_true rfl) (dnKp_nb 0 rfl rfl rfl (dnKp_of (lv2 := [(1, .int p1), (0, dnV b r0)]) [1, 2] rfl rfl)) ?_
  refine dn_assoc ?_
  refine dn_lv [3, 2, 1, 0] (lv2 := (fun s => [(0, dnV b r0), (1, .int p1), (2, .int s.1), (3, .int s.2)]) (0, 0)) rfl ?_
  refine dn_loopE (pc := 4) (body := fX13_longest_b4 r0 p1) 60 (fun s => [(0, dnV b r0), (1, .int p1), (2, .int s.1), (3, .int s.2)]) (fun q => [(2, .int q)]) (fun s4 K4 E4 hK4 hE4 => ?_) (fun q4 => ?_) 1000 (0, 0)
  · unfold fX13_longest_b4
    have hj53 : ∀ (l3 : Int32) (s0 : Int32), jX13_longest w x b 53 0 0 [(0, dnV b r0), (1, .int p1), (3, .int l3)] [.int s0] (dnB (fX13_longest_j53 r0 p1 l3 s0) (dnKo K4 E4)) := by
      intro l3 s0
      unfold fX13_longest_j53
      refine dn_istore_n (pc := 53) dX13_longest_53 (Nat.le_of_ble_eq_true rfl) (dnKp_nb 1 rfl rfl rfl (dnKp_of (lv2 := [(0, dnV b r0), (3, .int l3)]) [0, 2] rfl rfl)) ?_
      refine dn_iinc (pc := 54) (l3 + 1) 3 dX13_longest_54 rfl rfl (Nat.le_of_ble_eq_true rfl) (dnKp_nb 0 rfl rfl rfl (dnKp_of (lv2 := [(1, .int p1), (0, dnV b r0)]) [1, 2] rfl rfl)) ?_
      refine dn_goto (pc := 57) 4 dX13_longest_57 rfl ?_
      refine dn_leaf ?_
      exact dn_lv [3, 2, 1, 0] rfl (hK4 (s0, (l3 + 1)))
    have hj52 : ∀ (l2 : Int32) (l3 : Int32), jX13_longest w x b 52 0 0 [(0, dnV b r0), (1, .int p1), (2, .int l2), (3, .int l3)] [] (dnB (fX13_longest_j52 r0 p1 l2 l3) (dnKo K4 E4)) := by
      intro l2 l3
      unfold fX13_longest_j52
      refine dn_iload_n (pc := 52) 2 dX13_longest_52 rfl ?_
      exact dn_lv [0, 1, 3] rfl (hj53 l3 l2)
    refine dn_iload_n (pc := 4) 3 dX13_longest_4 rfl ?_
    refine dn_aload_n (pc := 5) r0 0 dX13_longest_5 rfl ?_
    refine dn_getR (pc := 6) r0 lRX13_17 dX13_longest_6 (fun v1 => ?_)
    refine dn_iload_n (pc := 9) 1 dX13_longest_9 rfl ?_
    refine dn_iald (pc := 10) v1 dX13_longest_10 (fun v2 => ?_)
    refine dn_icmp_ge (pc := 11) 60 dX13_longest_11 rfl (fun _ => ?_) (fun _ => ?_)
    · refine dn_leaf ?_
      exact dn_lv [2] rfl (hE4 s4.1)
    · refine dn_aload_n (pc := 14) r0 0 dX13_longest_14 rfl ?_
      refine dn_iload_n (pc := 15) 1 dX13_longest_15 rfl ?_
      refine dn_iload_n (pc := 16) 3 dX13_longest_16 rfl ?_
      refine dn_callV0Z (pc := 17) [.int p1, .int s4.2] r0 kRX13_336 (mX13_isRow w x b r0 p1 s4.2) rfl rfl (Nat.le_of_ble_eq_true rfl) ⟨(Nat.le_of_ble_eq_true rfl), (Nat.le_of_ble_eq_true rfl)⟩ ⟨rfl, rfl, (Nat.le_of_ble_eq_true rfl), (Nat.le_of_ble_eq_true rfl)⟩ dX13_longest_17 (fun v3 => ?_)
      refine dn_ifz_eq (pc := 20) 52 dX13_longest_20 rfl (fun _ => ?_) (fun _ => ?_)
      · refine dn_aload_n (pc := 23) r0 0 dX13_longest_23 rfl ?_
        refine dn_getR (pc := 24) r0 lRX13_26 dX13_longest_24 (fun v4 => ?_)
        refine dn_aload_n (pc := 27) r0 0 dX13_longest_27 rfl ?_
        refine dn_iload_n (pc := 28) 1 dX13_longest_28 rfl ?_
        refine dn_iload_n (pc := 29) 3 dX13_longest_29 rfl ?_
        refine dn_callV0I (pc := 30) [.int p1, .int s4.2] r0 kRX13_128 (mX13_held w x b r0 p1 s4.2) rfl rfl (Nat.le_of_ble_eq_true rfl) ⟨(Nat.le_of_ble_eq_true rfl), (Nat.le_of_ble_eq_true rfl)⟩ ⟨rfl, rfl, (Nat.le_of_ble_eq_true rfl), (Nat.le_of_ble_eq_true rfl)⟩ dX13_longest_30 (fun v5 => ?_)
        refine dn_iald (pc := 33) v4 dX13_longest_33 (fun v6 => ?_)
        refine dn_iload_n (pc := 34) 2 dX13_longest_34 rfl ?_
        refine dn_icmp_le (pc := 35) 52 dX13_longest_35 rfl (fun _ => ?_) (fun _ => ?_)
        · exact dn_lv [0, 1, 2, 3] rfl (hj52 s4.1 s4.2)
        · refine dn_aload_n (pc := 38) r0 0 dX13_longest_38 rfl ?_
          refine dn_getR (pc := 39) r0 lRX13_26 dX13_longest_39 (fun v7 => ?_)
          refine dn_aload_n (pc := 42) r0 0 dX13_longest_42 rfl ?_
          refine dn_iload_n (pc := 43) 1 dX13_longest_43 rfl ?_
          refine dn_iload_n (pc := 44) 3 dX13_longest_44 rfl ?_
          refine dn_callV0I (pc := 45) [.int p1, .int s4.2] r0 kRX13_128 (mX13_held w x b r0 p1 s4.2) rfl rfl (Nat.le_of_ble_eq_true rfl) ⟨(Nat.le_of_ble_eq_true rfl), (Nat.le_of_ble_eq_true rfl)⟩ ⟨rfl, rfl, (Nat.le_of_ble_eq_true rfl), (Nat.le_of_ble_eq_true rfl)⟩ dX13_longest_45 (fun v8 => ?_)
          refine dn_iald (pc := 48) v7 dX13_longest_48 (fun v9 => ?_)
          refine dn_goto (pc := 49) 53 dX13_longest_49 rfl ?_
          exact dn_lv [0, 1, 3] rfl (hj53 s4.2 v9)
      · exact dn_lv [0, 1, 2, 3] rfl (hj52 s4.1 s4.2)
  · refine dn_iload_n (pc := 60) 0 dX13_longest_60 rfl ?_
    exact dn_ret (Nat.le_of_ble_eq_true rfl) (Nat.le_of_ble_eq_true rfl) rfl dX13_longest_61
abbrev rmX13_turnDeed : Room := { frames := 5, cells := 0, slots := 0, locals := 116 }
def fX13_turnDeed_b46 (c0 : Option Nat) (c1 : Int32) (c2 : Int32) (c3 : Int32) (s46 : Int32) : dnM ((Int32) ⊕ (Unit)) :=
  if c3 ≤ s46 then
  (dnP (.inr ()))
  else
  (dnB (dnGR c0 11 18) fun v6 =>
  dnB (dnCv c0 11 (fX13_columnRow c0 c1 s46)) fun v7 =>
  dnB (dnTI v6 100 s46 v7) fun _ =>
  dnP (.inl (s46 + 1)))
def fX13_turnDeed (r0 : Option Nat) (p1 : Int32) (p2 : Int32) : dnM Int32 :=
  dnB (fX13_isGrid p1) fun v1 =>
  if v1 = true then
  (dnB (fX13_isGrid p2) fun v2 =>
  if v2 = true then
  (dnB (dnGR r0 11 4) fun v3 =>
  dnB (dnAI v3 100 p1) fun v4 =>
  if 0 ≤ v4 then
  (dnB (dnCv r0 11 (fX13_longest r0 p1)) fun v5 =>
  if v5 ≤ 6 then
  (dnB (dnIt 1000 (fX13_turnDeed_b46 r0 p1 p2 v5) 0) fun q46 =>
  dnB (dnCv r0 11 (fX13_comes r0 p2 v5)) fun v8 =>
  dnP v8)
  else
  (dnP (-10)))
  else
  (dnP (-2)))
  else
  (dnP (-1)))
  else
  (dnP (-1))
abbrev jX13_turnDeed (w : dnWd) (x : dnX) (b : Nat) := dnD w x b (fun _ => True) cX13_turnDeed RX13 5 rmX13_turnDeed "turnDeed" eI
set_option maxHeartbeats 4000000 in
set_option maxRecDepth 100000 in
theorem mX13_turnDeed (w : dnWd) (x : dnX) (b : Nat) (r0 : Option Nat) (p1 : Int32) (p2 : Int32) : dnMt w x b yX13_turnDeed cX13_turnDeed 5 (some .int) rmX13_turnDeed eI [dnV b r0, .int p1, .int p2] (fX13_turnDeed r0 p1 p2) := by
  have hlv : lv_args 0 [dnV b r0, .int p1, .int p2] = [(0, dnV b r0), (1, .int p1), (2, .int p2)] := by cases r0 <;> rfl
  refine dn_mt (by decide +kernel) roI (by cases r0 <;> exact (Nat.le_of_ble_eq_true rfl)) ?_
  rw [hlv]
  refine dn_top ?_
  show jX13_turnDeed w x b 0 0 0 _ [] (dnB _ dnP)
  unfold fX13_turnDeed
  refine dn_iload_n (pc := 0) 1 dX13_turnDeed_0 rfl ?_
  refine dn_callS0Z (pc := 1) [.int p1]  kRX13_134 (mX13_isGrid w x b p1) rfl rfl (Nat.le_of_ble_eq_true rfl) ⟨(Nat.le_of_ble_eq_true rfl), (Nat.le_of_ble_eq_true rfl)⟩ ⟨rfl, rfl, (Nat.le_of_ble_eq_true rfl), (Nat.le_of_ble_eq_true rfl)⟩ dX13_turnDeed_1 (fun v1 => ?_)
  refine dn_ifz_eq (pc := 4) 14 dX13_turnDeed_4 rfl (fun _ => ?_) (fun _ => ?_)
  · refine dn_iload_n (pc := 7) 2 dX13_turnDeed_7 rfl ?_
    refine dn_callS0Z (pc := 8) [.int p2]  kRX13_134 (mX13_isGrid w x b p2) rfl rfl (Nat.le_of_ble_eq_true rfl) ⟨(Nat.le_of_ble_eq_true rfl), (Nat.le_of_ble_eq_true rfl)⟩ ⟨rfl, rfl, (Nat.le_of_ble_eq_true rfl), (Nat.le_of_ble_eq_true rfl)⟩ dX13_turnDeed_8 (fun v2 => ?_)
    refine dn_ifz_ne (pc := 11) 16 dX13_turnDeed_11 rfl (fun _ => ?_) (fun _ => ?_)
    · refine dn_aload_n (pc := 16) r0 0 dX13_turnDeed_16 rfl ?_
      refine dn_getR (pc := 17) r0 lRX13_17 dX13_turnDeed_17 (fun v3 => ?_)
      refine dn_iload_n (pc := 20) 1 dX13_turnDeed_20 rfl ?_
      refine dn_iald (pc := 21) v3 dX13_turnDeed_21 (fun v4 => ?_)
      refine dn_if_ge (pc := 22) 28 dX13_turnDeed_22 rfl (fun _ => ?_) (fun _ => ?_)
      · refine dn_aload_n (pc := 28) r0 0 dX13_turnDeed_28 rfl ?_
        refine dn_iload_n (pc := 29) 1 dX13_turnDeed_29 rfl ?_
        refine dn_callV0I (pc := 30) [.int p1] r0 kRX13_351 (mX13_longest w x b r0 p1) rfl rfl (Nat.le_of_ble_eq_true rfl) ⟨(Nat.le_of_ble_eq_true rfl), (Nat.le_of_ble_eq_true rfl)⟩ ⟨rfl, rfl, (Nat.le_of_ble_eq_true rfl), (Nat.le_of_ble_eq_true rfl)⟩ dX13_turnDeed_30 (fun v5 => ?_)
        refine dn_istore_n (pc := 33) dX13_turnDeed_33 (Nat.le_of_ble_eq_true rfl) (dnKp_nb 2 rfl rfl rfl (dnKp_of (lv2 := [(0, dnV b r0), (1, .int p1)]) [0, 1] rfl rfl)) ?_
        refine dn_iload_n (pc := 34) 0 dX13_turnDeed_34 rfl ?_
        refine dn_bipush (pc := 35) (v := 6) dX13_turnDeed_35 rfl ?_
        refine dn_icmp_le (pc := 37) 43 dX13_turnDeed_37 rfl (fun _ => ?_) (fun _ => ?_)
        · refine dn_iconst (pc := 43) (v := 0) dX13_turnDeed_43 rfl ?_
          refine dn_istore (pc := 44) dX13_turnDeed_44 (Nat.le_of_ble_eq_true rfl) (dnKp_nb 0 rfl rfl rfl (dnKp_of (lv2 := [(2, .int p2), (0, dnV b r0), (1, .int p1)]) [1, 2, 3] rfl rfl)) ?_
          refine dn_assoc ?_
          refine dn_lv [3, 4, 2, 1, 0] (lv2 := (fun s => [(0, dnV b r0), (1, .int p1), (2, .int p2), (3, .int v5), (4, .int s)]) 0) rfl ?_
          refine dn_loopE (pc := 46) (body := fX13_turnDeed_b46 r0 p1 p2 v5) 72 (fun s => [(0, dnV b r0), (1, .int p1), (2, .int p2), (3, .int v5), (4, .int s)]) (fun q => [(0, dnV b r0), (2, .int p2), (3, .int v5)]) (fun s46 K46 E46 hK46 hE46 => ?_) (fun q46 => ?_) 1000 0
          · unfold fX13_turnDeed_b46
            refine dn_iload (pc := 46) 4 dX13_turnDeed_46 rfl ?_
            refine dn_iload_n (pc := 48) 3 dX13_turnDeed_48 rfl ?_
            refine dn_icmp_ge (pc := 49) 72 dX13_turnDeed_49 rfl (fun _ => ?_) (fun _ => ?_)
            · refine dn_leaf ?_
              exact dn_lv [0, 2, 3] rfl (hE46 ())
            · refine dn_aload_n (pc := 52) r0 0 dX13_turnDeed_52 rfl ?_
              refine dn_getR (pc := 53) r0 lRX13_52 dX13_turnDeed_53 (fun v6 => ?_)
              refine dn_iload (pc := 56) 4 dX13_turnDeed_56 rfl ?_
              refine dn_aload_n (pc := 58) r0 0 dX13_turnDeed_58 rfl ?_
              refine dn_iload_n (pc := 59) 1 dX13_turnDeed_59 rfl ?_
              refine dn_iload (pc := 60) 4 dX13_turnDeed_60 rfl ?_
              refine dn_callV0I (pc := 62) [.int p1, .int s46] r0 kRX13_354 (mX13_columnRow w x b r0 p1 s46) rfl rfl (Nat.le_of_ble_eq_true rfl) ⟨(Nat.le_of_ble_eq_true rfl), (Nat.le_of_ble_eq_true rfl)⟩ ⟨rfl, rfl, (Nat.le_of_ble_eq_true rfl), (Nat.le_of_ble_eq_true rfl)⟩ dX13_turnDeed_62 (fun v7 => ?_)
              refine dn_iast (pc := 65) v6 dX13_turnDeed_65 ?_
              refine dn_iinc (pc := 66) (s46 + 1) 4 dX13_turnDeed_66 rfl rfl (Nat.le_of_ble_eq_true rfl) (dnKp_nb 3 rfl rfl rfl (dnKp_of (lv2 := [(0, dnV b r0), (1, .int p1), (2, .int p2)]) [0, 1, 2] rfl rfl)) ?_
              refine dn_goto (pc := 69) 46 dX13_turnDeed_69 rfl ?_
              refine dn_leaf ?_
              exact dn_lv [2, 3, 4, 1, 0] rfl (hK46 (s46 + 1))
          · refine dn_aload_n (pc := 72) r0 0 dX13_turnDeed_72 rfl ?_
            refine dn_iload_n (pc := 73) 1 dX13_turnDeed_73 rfl ?_
            refine dn_iload_n (pc := 74) 2 dX13_turnDeed_74 rfl ?_
            refine dn_callV0I (pc := 75) [.int p2, .int v5] r0 kRX13_342 (mX13_comes w x b r0 p2 v5) rfl rfl (Nat.le_of_ble_eq_true rfl) ⟨(Nat.le_of_ble_eq_true rfl), (Nat.le_of_ble_eq_true rfl)⟩ ⟨rfl, rfl, (Nat.le_of_ble_eq_true rfl), (Nat.le_of_ble_eq_true rfl)⟩ dX13_turnDeed_75 (fun v8 => ?_)
            exact dn_ret (Nat.le_of_ble_eq_true rfl) (Nat.le_of_ble_eq_true rfl) rfl dX13_turnDeed_78
        · refine dn_bipush (pc := 40) (v := -10) dX13_turnDeed_40 rfl ?_
          exact dn_ret (Nat.le_of_ble_eq_true rfl) (Nat.le_of_ble_eq_true rfl) rfl dX13_turnDeed_42
      · refine dn_bipush (pc := 25) (v := -2) dX13_turnDeed_25 rfl ?_
        exact dn_ret (Nat.le_of_ble_eq_true rfl) (Nat.le_of_ble_eq_true rfl) rfl dX13_turnDeed_27
    · refine dn_iconst (pc := 14) (v := -1) dX13_turnDeed_14 rfl ?_
      exact dn_ret (Nat.le_of_ble_eq_true rfl) (Nat.le_of_ble_eq_true rfl) rfl dX13_turnDeed_15
  · refine dn_iconst (pc := 14) (v := -1) dX13_turnDeed_14 rfl ?_
    exact dn_ret (Nat.le_of_ble_eq_true rfl) (Nat.le_of_ble_eq_true rfl) rfl dX13_turnDeed_15
abbrev rmX13_does : Room := { frames := 6, cells := 0, slots := 0, locals := 140 }
def fX13_does (r0 : Option Nat) (p1 : Int32) (p2 : Int32) (p3 : Int32) (p4 : Int32) (p5 : Int32) (p6 : Int32) : dnM Int32 :=
  if p1 = 0 then
  (dnB (dnCv r0 11 (fX13_rowDeed r0 p2 p3 p4 p5)) fun v14 =>
  dnP v14)
  else
  (if p1 = 1 then
  (dnB (dnCv r0 11 (fX13_dropDeed r0 p2)) fun v13 =>
  dnP v13)
  else
  (if p1 = 2 then
  (dnB (dnCv r0 11 (fX13_swapDeed r0 p2 p3 p4 p5)) fun v12 =>
  dnP v12)
  else
  (if p1 = 3 then
  (dnB (dnCv r0 11 (fX13_shareDeed r0 p2 p3 p4 p5)) fun v11 =>
  dnP v11)
  else
  (if p1 = 4 then
  (dnB (dnCv r0 11 (fX13_cutDeed r0 p2 p3 p4 p5 p6)) fun v10 =>
  dnP v10)
  else
  (if p1 = 5 then
  (dnB (dnCv r0 11 (fX13_castDeed r0 p2 p3 p4)) fun v9 =>
  dnP v9)
  else
  (if p1 = 6 then
  (dnB (dnCv r0 11 (fX13_joinDeed r0 p2 p3 p4)) fun v8 =>
  dnP v8)
  else
  (if p1 = 7 then
  (dnB (dnCv r0 11 (fX13_flipDeed r0 p2 p3)) fun v7 =>
  dnP v7)
  else
  (if p1 = 8 then
  (dnB (dnCv r0 11 (fX13_rollDeed r0 p2 p3 p4)) fun v6 =>
  dnP v6)
  else
  (if p1 = 9 then
  (dnB (dnCv r0 11 (fX13_orderDeed r0 p2 p3)) fun v5 =>
  dnP v5)
  else
  (if p1 = 10 then
  (dnB (dnCv r0 11 (fX13_addDeed r0 p2 p3 p4 p5)) fun v4 =>
  dnP v4)
  else
  (if p1 = 11 then
  (dnB (dnCv r0 11 (fX13_flatDeed r0 p2 p3 p4)) fun v3 =>
  dnP v3)
  else
  (if p1 = 12 then
  (dnB (dnCv r0 11 (fX13_dealDeed r0 p2 p3 p4 p5)) fun v2 =>
  dnP v2)
  else
  (dnB (dnCv r0 11 (fX13_turnDeed r0 p2 p3)) fun v1 =>
  dnP v1)))))))))))))
abbrev jX13_does (w : dnWd) (x : dnX) (b : Nat) := dnD w x b (fun _ => True) cX13_does RX13 7 rmX13_does "does" eI
set_option maxHeartbeats 4000000 in
set_option maxRecDepth 100000 in
theorem mX13_does (w : dnWd) (x : dnX) (b : Nat) (r0 : Option Nat) (p1 : Int32) (p2 : Int32) (p3 : Int32) (p4 : Int32) (p5 : Int32) (p6 : Int32) : dnMt w x b yX13_does cX13_does 7 (some .int) rmX13_does eI [dnV b r0, .int p1, .int p2, .int p3, .int p4, .int p5, .int p6] (fX13_does r0 p1 p2 p3 p4 p5 p6) := by
  have hlv : lv_args 0 [dnV b r0, .int p1, .int p2, .int p3, .int p4, .int p5, .int p6] = [(0, dnV b r0), (1, .int p1), (2, .int p2), (3, .int p3), (4, .int p4), (5, .int p5), (6, .int p6)] := by cases r0 <;> rfl
  refine dn_mt (by decide +kernel) roI (by cases r0 <;> exact (Nat.le_of_ble_eq_true rfl)) ?_
  rw [hlv]
  refine dn_top ?_
  show jX13_does w x b 0 0 0 _ [] (dnB _ dnP)
  unfold fX13_does
  refine dn_iload_n (pc := 0) 1 dX13_does_0 rfl ?_
  refine dn_tcase (pc := 1) 0 68 dX13_does_1 (by decide) (by decide) rfl rfl (fun _ => ?_) (fun n1_0 => ?_)
  · refine dn_aload_n (pc := 68) r0 0 dX13_does_68 rfl ?_
    refine dn_iload_n (pc := 69) 2 dX13_does_69 rfl ?_
    refine dn_iload_n (pc := 70) 3 dX13_does_70 rfl ?_
    refine dn_iload (pc := 71) 4 dX13_does_71 rfl ?_
    refine dn_iload (pc := 73) 5 dX13_does_73 rfl ?_
    refine dn_callV0I (pc := 75) [.int p2, .int p3, .int p4, .int p5] r0 kRX13_158 (mX13_rowDeed w x b r0 p2 p3 p4 p5) rfl rfl (Nat.le_of_ble_eq_true rfl) ⟨(Nat.le_of_ble_eq_true rfl), (Nat.le_of_ble_eq_true rfl)⟩ ⟨rfl, rfl, (Nat.le_of_ble_eq_true rfl), (Nat.le_of_ble_eq_true rfl)⟩ dX13_does_75 (fun v14 => ?_)
    exact dn_ret (Nat.le_of_ble_eq_true rfl) (Nat.le_of_ble_eq_true rfl) rfl dX13_does_78
  · refine dn_tcase (pc := 1) 1 79 dX13_does_1 (by decide) (by decide) rfl rfl (fun _ => ?_) (fun n1_1 => ?_)
    · refine dn_aload_n (pc := 79) r0 0 dX13_does_79 rfl ?_
      refine dn_iload_n (pc := 80) 2 dX13_does_80 rfl ?_
      refine dn_callV0I (pc := 81) [.int p2] r0 kRX13_149 (mX13_dropDeed w x b r0 p2) rfl rfl (Nat.le_of_ble_eq_true rfl) ⟨(Nat.le_of_ble_eq_true rfl), (Nat.le_of_ble_eq_true rfl)⟩ ⟨rfl, rfl, (Nat.le_of_ble_eq_true rfl), (Nat.le_of_ble_eq_true rfl)⟩ dX13_does_81 (fun v13 => ?_)
      exact dn_ret (Nat.le_of_ble_eq_true rfl) (Nat.le_of_ble_eq_true rfl) rfl dX13_does_84
    · refine dn_tcase (pc := 1) 2 85 dX13_does_1 (by decide) (by decide) rfl rfl (fun _ => ?_) (fun n1_2 => ?_)
      · refine dn_aload_n (pc := 85) r0 0 dX13_does_85 rfl ?_
        refine dn_iload_n (pc := 86) 2 dX13_does_86 rfl ?_
        refine dn_iload_n (pc := 87) 3 dX13_does_87 rfl ?_
        refine dn_iload (pc := 88) 4 dX13_does_88 rfl ?_
        refine dn_iload (pc := 90) 5 dX13_does_90 rfl ?_
        refine dn_callV0I (pc := 92) [.int p2, .int p3, .int p4, .int p5] r0 kRX13_175 (mX13_swapDeed w x b r0 p2 p3 p4 p5) rfl rfl (Nat.le_of_ble_eq_true rfl) ⟨(Nat.le_of_ble_eq_true rfl), (Nat.le_of_ble_eq_true rfl)⟩ ⟨rfl, rfl, (Nat.le_of_ble_eq_true rfl), (Nat.le_of_ble_eq_true rfl)⟩ dX13_does_92 (fun v12 => ?_)
        exact dn_ret (Nat.le_of_ble_eq_true rfl) (Nat.le_of_ble_eq_true rfl) rfl dX13_does_95
      · refine dn_tcase (pc := 1) 3 96 dX13_does_1 (by decide) (by decide) rfl rfl (fun _ => ?_) (fun n1_3 => ?_)
        · refine dn_aload_n (pc := 96) r0 0 dX13_does_96 rfl ?_
          refine dn_iload_n (pc := 97) 2 dX13_does_97 rfl ?_
          refine dn_iload_n (pc := 98) 3 dX13_does_98 rfl ?_
          refine dn_iload (pc := 99) 4 dX13_does_99 rfl ?_
          refine dn_iload (pc := 101) 5 dX13_does_101 rfl ?_
          refine dn_callV0I (pc := 103) [.int p2, .int p3, .int p4, .int p5] r0 kRX13_172 (mX13_shareDeed w x b r0 p2 p3 p4 p5) rfl rfl (Nat.le_of_ble_eq_true rfl) ⟨(Nat.le_of_ble_eq_true rfl), (Nat.le_of_ble_eq_true rfl)⟩ ⟨rfl, rfl, (Nat.le_of_ble_eq_true rfl), (Nat.le_of_ble_eq_true rfl)⟩ dX13_does_103 (fun v11 => ?_)
          exact dn_ret (Nat.le_of_ble_eq_true rfl) (Nat.le_of_ble_eq_true rfl) rfl dX13_does_106
        · refine dn_tcase (pc := 1) 4 107 dX13_does_1 (by decide) (by decide) rfl rfl (fun _ => ?_) (fun n1_4 => ?_)
          · refine dn_aload_n (pc := 107) r0 0 dX13_does_107 rfl ?_
            refine dn_iload_n (pc := 108) 2 dX13_does_108 rfl ?_
            refine dn_iload_n (pc := 109) 3 dX13_does_109 rfl ?_
            refine dn_iload (pc := 110) 4 dX13_does_110 rfl ?_
            refine dn_iload (pc := 112) 5 dX13_does_112 rfl ?_
            refine dn_iload (pc := 114) 6 dX13_does_114 rfl ?_
            refine dn_callV0I (pc := 116) [.int p2, .int p3, .int p4, .int p5, .int p6] r0 kRX13_284 (mX13_cutDeed w x b r0 p2 p3 p4 p5 p6) rfl rfl (Nat.le_of_ble_eq_true rfl) ⟨(Nat.le_of_ble_eq_true rfl), (Nat.le_of_ble_eq_true rfl)⟩ ⟨rfl, rfl, (Nat.le_of_ble_eq_true rfl), (Nat.le_of_ble_eq_true rfl)⟩ dX13_does_116 (fun v10 => ?_)
            exact dn_ret (Nat.le_of_ble_eq_true rfl) (Nat.le_of_ble_eq_true rfl) rfl dX13_does_119
          · refine dn_tcase (pc := 1) 5 120 dX13_does_1 (by decide) (by decide) rfl rfl (fun _ => ?_) (fun n1_5 => ?_)
            · refine dn_aload_n (pc := 120) r0 0 dX13_does_120 rfl ?_
              refine dn_iload_n (pc := 121) 2 dX13_does_121 rfl ?_
              refine dn_iload_n (pc := 122) 3 dX13_does_122 rfl ?_
              refine dn_iload (pc := 123) 4 dX13_does_123 rfl ?_
              refine dn_callV0I (pc := 125) [.int p2, .int p3, .int p4] r0 kRX13_288 (mX13_castDeed w x b r0 p2 p3 p4) rfl rfl (Nat.le_of_ble_eq_true rfl) ⟨(Nat.le_of_ble_eq_true rfl), (Nat.le_of_ble_eq_true rfl)⟩ ⟨rfl, rfl, (Nat.le_of_ble_eq_true rfl), (Nat.le_of_ble_eq_true rfl)⟩ dX13_does_125 (fun v9 => ?_)
              exact dn_ret (Nat.le_of_ble_eq_true rfl) (Nat.le_of_ble_eq_true rfl) rfl dX13_does_128
            · refine dn_tcase (pc := 1) 6 129 dX13_does_1 (by decide) (by decide) rfl rfl (fun _ => ?_) (fun n1_6 => ?_)
              · refine dn_aload_n (pc := 129) r0 0 dX13_does_129 rfl ?_
                refine dn_iload_n (pc := 130) 2 dX13_does_130 rfl ?_
                refine dn_iload_n (pc := 131) 3 dX13_does_131 rfl ?_
                refine dn_iload (pc := 132) 4 dX13_does_132 rfl ?_
                refine dn_callV0I (pc := 134) [.int p2, .int p3, .int p4] r0 kRX13_297 (mX13_joinDeed w x b r0 p2 p3 p4) rfl rfl (Nat.le_of_ble_eq_true rfl) ⟨(Nat.le_of_ble_eq_true rfl), (Nat.le_of_ble_eq_true rfl)⟩ ⟨rfl, rfl, (Nat.le_of_ble_eq_true rfl), (Nat.le_of_ble_eq_true rfl)⟩ dX13_does_134 (fun v8 => ?_)
                exact dn_ret (Nat.le_of_ble_eq_true rfl) (Nat.le_of_ble_eq_true rfl) rfl dX13_does_137
              · refine dn_tcase (pc := 1) 7 138 dX13_does_1 (by decide) (by decide) rfl rfl (fun _ => ?_) (fun n1_7 => ?_)
                · refine dn_aload_n (pc := 138) r0 0 dX13_does_138 rfl ?_
                  refine dn_iload_n (pc := 139) 2 dX13_does_139 rfl ?_
                  refine dn_iload_n (pc := 140) 3 dX13_does_140 rfl ?_
                  refine dn_callV0I (pc := 141) [.int p2, .int p3] r0 kRX13_306 (mX13_flipDeed w x b r0 p2 p3) rfl rfl (Nat.le_of_ble_eq_true rfl) ⟨(Nat.le_of_ble_eq_true rfl), (Nat.le_of_ble_eq_true rfl)⟩ ⟨rfl, rfl, (Nat.le_of_ble_eq_true rfl), (Nat.le_of_ble_eq_true rfl)⟩ dX13_does_141 (fun v7 => ?_)
                  exact dn_ret (Nat.le_of_ble_eq_true rfl) (Nat.le_of_ble_eq_true rfl) rfl dX13_does_144
                · refine dn_tcase (pc := 1) 8 145 dX13_does_1 (by decide) (by decide) rfl rfl (fun _ => ?_) (fun n1_8 => ?_)
                  · refine dn_aload_n (pc := 145) r0 0 dX13_does_145 rfl ?_
                    refine dn_iload_n (pc := 146) 2 dX13_does_146 rfl ?_
                    refine dn_iload_n (pc := 147) 3 dX13_does_147 rfl ?_
                    refine dn_iload (pc := 148) 4 dX13_does_148 rfl ?_
                    refine dn_callV0I (pc := 150) [.int p2, .int p3, .int p4] r0 kRX13_309 (mX13_rollDeed w x b r0 p2 p3 p4) rfl rfl (Nat.le_of_ble_eq_true rfl) ⟨(Nat.le_of_ble_eq_true rfl), (Nat.le_of_ble_eq_true rfl)⟩ ⟨rfl, rfl, (Nat.le_of_ble_eq_true rfl), (Nat.le_of_ble_eq_true rfl)⟩ dX13_does_150 (fun v6 => ?_)
                    exact dn_ret (Nat.le_of_ble_eq_true rfl) (Nat.le_of_ble_eq_true rfl) rfl dX13_does_153
                  · refine dn_tcase (pc := 1) 9 154 dX13_does_1 (by decide) (by decide) rfl rfl (fun _ => ?_) (fun n1_9 => ?_)
                    · refine dn_aload_n (pc := 154) r0 0 dX13_does_154 rfl ?_
                      refine dn_iload_n (pc := 155) 2 dX13_does_155 rfl ?_
                      refine dn_iload_n (pc := 156) 3 dX13_does_156 rfl ?_
                      refine dn_callV0I (pc := 157) [.int p2, .int p3] r0 kRX13_315 (mX13_orderDeed w x b r0 p2 p3) rfl rfl (Nat.le_of_ble_eq_true rfl) ⟨(Nat.le_of_ble_eq_true rfl), (Nat.le_of_ble_eq_true rfl)⟩ ⟨rfl, rfl, (Nat.le_of_ble_eq_true rfl), (Nat.le_of_ble_eq_true rfl)⟩ dX13_does_157 (fun v5 => ?_)
                      exact dn_ret (Nat.le_of_ble_eq_true rfl) (Nat.le_of_ble_eq_true rfl) rfl dX13_does_160
                    · refine dn_tcase (pc := 1) 10 161 dX13_does_1 (by decide) (by decide) rfl rfl (fun _ => ?_) (fun n1_10 => ?_)
                      · refine dn_aload_n (pc := 161) r0 0 dX13_does_161 rfl ?_
                        refine dn_iload_n (pc := 162) 2 dX13_does_162 rfl ?_
                        refine dn_iload_n (pc := 163) 3 dX13_does_163 rfl ?_
                        refine dn_iload (pc := 164) 4 dX13_does_164 rfl ?_
                        refine dn_iload (pc := 166) 5 dX13_does_166 rfl ?_
                        refine dn_callV0I (pc := 168) [.int p2, .int p3, .int p4, .int p5] r0 kRX13_322 (mX13_addDeed w x b r0 p2 p3 p4 p5) rfl rfl (Nat.le_of_ble_eq_true rfl) ⟨(Nat.le_of_ble_eq_true rfl), (Nat.le_of_ble_eq_true rfl)⟩ ⟨rfl, rfl, (Nat.le_of_ble_eq_true rfl), (Nat.le_of_ble_eq_true rfl)⟩ dX13_does_168 (fun v4 => ?_)
                        exact dn_ret (Nat.le_of_ble_eq_true rfl) (Nat.le_of_ble_eq_true rfl) rfl dX13_does_171
                      · refine dn_tcase (pc := 1) 11 172 dX13_does_1 (by decide) (by decide) rfl rfl (fun _ => ?_) (fun n1_11 => ?_)
                        · refine dn_aload_n (pc := 172) r0 0 dX13_does_172 rfl ?_
                          refine dn_iload_n (pc := 173) 2 dX13_does_173 rfl ?_
                          refine dn_iload_n (pc := 174) 3 dX13_does_174 rfl ?_
                          refine dn_iload (pc := 175) 4 dX13_does_175 rfl ?_
                          refine dn_callV0I (pc := 177) [.int p2, .int p3, .int p4] r0 kRX13_339 (mX13_flatDeed w x b r0 p2 p3 p4) rfl rfl (Nat.le_of_ble_eq_true rfl) ⟨(Nat.le_of_ble_eq_true rfl), (Nat.le_of_ble_eq_true rfl)⟩ ⟨rfl, rfl, (Nat.le_of_ble_eq_true rfl), (Nat.le_of_ble_eq_true rfl)⟩ dX13_does_177 (fun v3 => ?_)
                          exact dn_ret (Nat.le_of_ble_eq_true rfl) (Nat.le_of_ble_eq_true rfl) rfl dX13_does_180
                        · refine dn_tcase (pc := 1) 12 181 dX13_does_1 (by decide) (by decide) rfl rfl (fun _ => ?_) (fun n1_12 => ?_)
                          · refine dn_aload_n (pc := 181) r0 0 dX13_does_181 rfl ?_
                            refine dn_iload_n (pc := 182) 2 dX13_does_182 rfl ?_
                            refine dn_iload_n (pc := 183) 3 dX13_does_183 rfl ?_
                            refine dn_iload (pc := 184) 4 dX13_does_184 rfl ?_
                            refine dn_iload (pc := 186) 5 dX13_does_186 rfl ?_
                            refine dn_callV0I (pc := 188) [.int p2, .int p3, .int p4, .int p5] r0 kRX13_345 (mX13_dealDeed w x b r0 p2 p3 p4 p5) rfl rfl (Nat.le_of_ble_eq_true rfl) ⟨(Nat.le_of_ble_eq_true rfl), (Nat.le_of_ble_eq_true rfl)⟩ ⟨rfl, rfl, (Nat.le_of_ble_eq_true rfl), (Nat.le_of_ble_eq_true rfl)⟩ dX13_does_188 (fun v2 => ?_)
                            exact dn_ret (Nat.le_of_ble_eq_true rfl) (Nat.le_of_ble_eq_true rfl) rfl dX13_does_191
                          · refine dn_tout (pc := 1) [0, 1, 2, 3, 4, 5, 6, 7, 8, 9, 10, 11, 12] 192 dX13_does_1 (List.forall_mem_cons.mpr ⟨n1_0, (List.forall_mem_cons.mpr ⟨n1_1, (List.forall_mem_cons.mpr ⟨n1_2, (List.forall_mem_cons.mpr ⟨n1_3, (List.forall_mem_cons.mpr ⟨n1_4, (List.forall_mem_cons.mpr ⟨n1_5, (List.forall_mem_cons.mpr ⟨n1_6, (List.forall_mem_cons.mpr ⟨n1_7, (List.forall_mem_cons.mpr ⟨n1_8, (List.forall_mem_cons.mpr ⟨n1_9, (List.forall_mem_cons.mpr ⟨n1_10, (List.forall_mem_cons.mpr ⟨n1_11, (List.forall_mem_cons.mpr ⟨n1_12, (fun _ h => absurd h List.not_mem_nil)⟩)⟩)⟩)⟩)⟩)⟩)⟩)⟩)⟩)⟩)⟩)⟩)⟩) (by decide) rfl ?_
                            refine dn_aload_n (pc := 192) r0 0 dX13_does_192 rfl ?_
                            refine dn_iload_n (pc := 193) 2 dX13_does_193 rfl ?_
                            refine dn_iload_n (pc := 194) 3 dX13_does_194 rfl ?_
                            refine dn_callV0I (pc := 195) [.int p2, .int p3] r0 kRX13_357 (mX13_turnDeed w x b r0 p2 p3) rfl rfl (Nat.le_of_ble_eq_true rfl) ⟨(Nat.le_of_ble_eq_true rfl), (Nat.le_of_ble_eq_true rfl)⟩ ⟨rfl, rfl, (Nat.le_of_ble_eq_true rfl), (Nat.le_of_ble_eq_true rfl)⟩ dX13_does_195 (fun v1 => ?_)
                            exact dn_ret (Nat.le_of_ble_eq_true rfl) (Nat.le_of_ble_eq_true rfl) rfl dX13_does_198
abbrev rmX13_isAs : Room := { frames := 0, cells := 0, slots := 0, locals := 0 }
def fX13_isAs_j16 : dnM Bool :=
  dnP true
def fX13_isAs (p0 : Int32) : dnM Bool :=
  if p0 = 4 then
  (fX13_isAs_j16)
  else
  (if p0 = 5 then
  (fX13_isAs_j16)
  else
  (if ¬ p0 = 7 then
  (dnP false)
  else
  (fX13_isAs_j16)))
abbrev jX13_isAs (w : dnWd) (x : dnX) (b : Nat) := dnD w x b (fun _ => True) cX13_isAs RX13 1 rmX13_isAs "isAs" eZ
set_option maxHeartbeats 4000000 in
set_option maxRecDepth 100000 in
theorem mX13_isAs (w : dnWd) (x : dnX) (b : Nat) (p0 : Int32) : dnMt w x b yX13_isAs cX13_isAs 1 (some .boolean) rmX13_isAs eZ [.int p0] (fX13_isAs p0) := by
  have hlv : lv_args 0 [.int p0] = [(0, .int p0)] := by rfl
  refine dn_mt (by decide +kernel) roZ (by exact (Nat.le_of_ble_eq_true rfl)) ?_
  rw [hlv]
  refine dn_top ?_
  show jX13_isAs w x b 0 0 0 _ [] (dnB _ dnP)
  unfold fX13_isAs
  have hj16 : jX13_isAs w x b 16 0 0 [] [] (dnB (fX13_isAs_j16) dnP) := by
    unfold fX13_isAs_j16
    refine dn_iconst (pc := 16) (v := 1) dX13_isAs_16 rfl ?_
    refine dn_goto (pc := 17) 21 dX13_isAs_17 rfl ?_
    exact dn_ret (Nat.le_of_ble_eq_true rfl) (Nat.le_of_ble_eq_true rfl) rfl dX13_isAs_21
  refine dn_iload_n (pc := 0) 0 dX13_isAs_0 rfl ?_
  refine dn_iconst (pc := 1) (v := 4) dX13_isAs_1 rfl ?_
  refine dn_icmp_eq (pc := 2) 16 dX13_isAs_2 rfl (fun _ => ?_) (fun _ => ?_)
  · exact dn_lv [] rfl (hj16)
  · refine dn_iload_n (pc := 5) 0 dX13_isAs_5 rfl ?_
    refine dn_iconst (pc := 6) (v := 5) dX13_isAs_6 rfl ?_
    refine dn_icmp_eq (pc := 7) 16 dX13_isAs_7 rfl (fun _ => ?_) (fun _ => ?_)
    · exact dn_lv [] rfl (hj16)
    · refine dn_iload_n (pc := 10) 0 dX13_isAs_10 rfl ?_
      refine dn_bipush (pc := 11) (v := 7) dX13_isAs_11 rfl ?_
      refine dn_icmp_ne (pc := 13) 20 dX13_isAs_13 rfl (fun _ => ?_) (fun _ => ?_)
      · refine dn_iconst (pc := 20) (v := 0) dX13_isAs_20 rfl ?_
        exact dn_ret (Nat.le_of_ble_eq_true rfl) (Nat.le_of_ble_eq_true rfl) rfl dX13_isAs_21
      · exact dn_lv [] rfl (hj16)
abbrev rmX13_dotAnswer : Room := { frames := 4, cells := 0, slots := 0, locals := 93 }
def fX13_dotAnswer_j245 (l9 : Int32) (s0 : Option Nat) (s1 : Int64) : dnM Int32 :=
  dnB (dnCv s0 11 (fX13_tells s0 s1 l9)) fun v1 =>
  dnP v1
def fX13_dotAnswer_j196 (l0 : Option Nat) (l5 : Int32) (l7 : Int32) (l8 : Int32) (l9 : Int32) (l10 : Int32) (l13 : UInt64) (s0 : Option Nat) (s1 : Int64) : dnM ((Int32) ⊕ (Unit)) :=
  dnB (dnPL s0 11 20 s1) fun _ =>
  dnB (dnGD l0 11 21) fun v2 =>
  dnB (dnGD l0 11 14) fun v3 =>
  dnB (dnN64 (FP.dmul l13 v3)) fun v4 =>
  dnB (dnN64 (FP.dadd v2 v4)) fun v5 =>
  dnB (dnPD l0 11 21 v5) fun _ =>
  dnP (.inl (l10 + 1))
def fX13_dotAnswer_b113 (c0 : Option Nat) (c5 : Int32) (c7 : Int32) (c8 : Int32) (c9 : Int32) (s113 : Int32) : dnM ((Int32) ⊕ (Unit)) :=
  if c9 ≤ s113 then
  (dnP (.inr ()))
  else
  (dnB (dnCv c0 11 (fX13_loads c0 c7 s113)) fun _ =>
  dnB (dnCv c0 11 (fX13_widens c0 c5)) fun _ =>
  dnB (dnGL c0 11 13) fun v8 =>
  dnB (dnGD c0 11 14) fun v9 =>
  dnB (dnCv c0 11 (fX13_loads c0 c8 s113)) fun _ =>
  dnB (dnCv c0 11 (fX13_widens c0 c5)) fun _ =>
  if ¬ c5 = 4 then
  (dnB (dnGL c0 11 20) fun v12 =>
  dnB (dnGL c0 11 13) fun v13 =>
  fX13_dotAnswer_j196 c0 c5 c7 c8 c9 s113 v9 c0 (v12 + (v8 * v13)))
  else
  (dnB (dnGL c0 11 20) fun v14 =>
  dnB (dnGL c0 11 13) fun v15 =>
  fX13_dotAnswer_j196 c0 c5 c7 c8 c9 s113 v9 c0 (((((v14 + (v8 * v15)) : Int64).toInt32) : Int32).toInt64)))
def fX13_dotAnswer_j100 (l0 : Option Nat) (l5 : Int32) (l7 : Int32) (l8 : Int32) (l9 : Int32) : dnM Int32 :=
  dnB (dnPL l0 11 20 0) fun _ =>
  dnB (dnPD l0 11 21 FP.dconst0) fun _ =>
  dnB (dnIt 1000 (fX13_dotAnswer_b113 l0 l5 l7 l8 l9) 0) fun q113 =>
  if ¬ l5 = 7 then
  (dnB (dnGL l0 11 20) fun v16 =>
  fX13_dotAnswer_j245 l9 l0 v16)
  else
  (dnB (dnGD l0 11 21) fun v17 =>
  dnB (dnN64 (FP.dmul 4620693217682128896 v17)) fun v18 =>
  fX13_dotAnswer_j245 l9 l0 (FP.d2l v18))
def fX13_dotAnswer (r0 : Option Nat) (p1 : Int32) (p2 : Int32) (p3 : Int32) (p4 : Int32) (p5 : Int32) : dnM Int32 :=
  dnB (fX13_isGrid p1) fun v19 =>
  if v19 = true then
  (dnB (fX13_isGrid p3) fun v20 =>
  if v20 = true then
  (dnB (fX13_isAs p5) fun v21 =>
  if v21 = true then
  (dnB (dnCv r0 11 (fX13_twoRows r0 p1 p2 p3 p4)) fun v22 =>
  if v22 = 0 then
  (dnB (dnCv r0 11 (fX13_held r0 p1 p2)) fun v23 =>
  dnB (dnCv r0 11 (fX13_held r0 p3 p4)) fun v24 =>
  dnB (dnCv r0 11 (fX13_both r0 v23 v24)) fun v25 =>
  if v25 ≤ 0 then
  (fX13_dotAnswer_j100 r0 p5 v23 v24 v25)
  else
  (dnB (dnCv r0 11 (fX13_isReadable r0 v23 p5)) fun v26 =>
  if v26 = true then
  (dnB (dnCv r0 11 (fX13_isReadable r0 v24 p5)) fun v27 =>
  if v27 = true then
  (fX13_dotAnswer_j100 r0 p5 v23 v24 v25)
  else
  (dnP (-7)))
  else
  (dnP (-7))))
  else
  (dnP v22))
  else
  (dnP (-1)))
  else
  (dnP (-1)))
  else
  (dnP (-1))
abbrev jX13_dotAnswer (w : dnWd) (x : dnX) (b : Nat) := dnD w x b (fun _ => True) cX13_dotAnswer RX13 15 rmX13_dotAnswer "dotAnswer" eI
set_option maxHeartbeats 4000000 in
set_option maxRecDepth 100000 in
theorem mX13_dotAnswer (w : dnWd) (x : dnX) (b : Nat) (r0 : Option Nat) (p1 : Int32) (p2 : Int32) (p3 : Int32) (p4 : Int32) (p5 : Int32) : dnMt w x b yX13_dotAnswer cX13_dotAnswer 15 (some .int) rmX13_dotAnswer eI [dnV b r0, .int p1, .int p2, .int p3, .int p4, .int p5] (fX13_dotAnswer r0 p1 p2 p3 p4 p5) := by
  have hlv : lv_args 0 [dnV b r0, .int p1, .int p2, .int p3, .int p4, .int p5] = [(0, dnV b r0), (1, .int p1), (2, .int p2), (3, .int p3), (4, .int p4), (5, .int p5)] := by cases r0 <;> rfl
  refine dn_mt (by decide +kernel) roI (by cases r0 <;> exact (Nat.le_of_ble_eq_true rfl)) ?_
  rw [hlv]
  refine dn_top ?_
  show jX13_dotAnswer w x b 0 0 0 _ [] (dnB _ dnP)
  unfold fX13_dotAnswer
  have hj245 : ∀ (l9 : Int32) (s0 : Option Nat) (s1 : Int64), jX13_dotAnswer w x b 245 0 0 [(9, .int l9)] [.long s1, dnV b s0] (dnB (fX13_dotAnswer_j245 l9 s0 s1) dnP) := by
    intro l9 s0 s1
    unfold fX13_dotAnswer_j245
    refine dn_iload (pc := 245) 0 dX13_dotAnswer_245 rfl ?_
    refine dn_callV0I (pc := 247) [.long s1, .int l9] s0 kRX13_243 (mX13_tells w x b s0 s1 l9) rfl rfl (Nat.le_of_ble_eq_true rfl) ⟨(Nat.le_of_ble_eq_true rfl), (Nat.le_of_ble_eq_true rfl)⟩ ⟨rfl, rfl, (Nat.le_of_ble_eq_true rfl), (Nat.le_of_ble_eq_true rfl)⟩ dX13_dotAnswer_247 (fun v1 => ?_)
    exact dn_ret (Nat.le_of_ble_eq_true rfl) (Nat.le_of_ble_eq_true rfl) rfl dX13_dotAnswer_250
  have hj100 : ∀ (l0 : Option Nat) (l5 : Int32) (l7 : Int32) (l8 : Int32) (l9 : Int32), jX13_dotAnswer w x b 100 0 0 [(0, dnV b l0), (5, .int l5), (7, .int l7), (8, .int l8), (9, .int l9)] [] (dnB (fX13_dotAnswer_j100 l0 l5 l7 l8 l9) dnP) := by
    intro l0 l5 l7 l8 l9
    unfold fX13_dotAnswer_j100
    refine dn_aload_n (pc := 100) l0 0 dX13_dotAnswer_100 rfl ?_
    refine dn_lconst (pc := 101) (v := 0) dX13_dotAnswer_101 rfl ?_
    refine dn_putL (pc := 102) l0 lRX13_370 dX13_dotAnswer_102 ?_
    refine dn_aload_n (pc := 105) l0 0 dX13_dotAnswer_105 rfl ?_
    refine dn_dconst0 (pc := 106) dX13_dotAnswer_106 ?_
    refine dn_putD (pc := 107) l0 lRX13_376 dX13_dotAnswer_107 ?_
    refine dn_iconst (pc := 110) (v := 0) dX13_dotAnswer_110 rfl ?_
    refine dn_istore (pc := 111) dX13_dotAnswer_111 (Nat.le_of_ble_eq_true rfl) (dnKp_nb 4 rfl rfl rfl (dnKp_of (lv2 := [(0, dnV b l0), (5, .int l5), (7, .int l7), (8, .int l8)]) [0, 1, 2, 3] rfl rfl)) ?_
    refine dn_assoc ?_
    refine dn_lv [2, 3, 4, 5, 1, 0] (lv2 := (fun s => [(0, dnV b l0), (5, .int l5), (7, .int l7), (8, .int l8), (9, .int l9), (10, .int s)]) 0) rfl ?_
    refine dn_loopE (pc := 113) (body := fX13_dotAnswer_b113 l0 l5 l7 l8 l9) 221 (fun s => [(0, dnV b l0), (5, .int l5), (7, .int l7), (8, .int l8), (9, .int l9), (10, .int s)]) (fun q => [(0, dnV b l0), (5, .int l5), (9, .int l9)]) (fun s113 K113 E113 hK113 hE113 => ?_) (fun q113 => ?_) 1000 0
    · unfold fX13_dotAnswer_b113
      have hj196 : ∀ (l10 : Int32) (l13 : UInt64) (s0 : Option Nat) (s1 : Int64), jX13_dotAnswer w x b 196 0 0 [(0, dnV b l0), (5, .int l5), (7, .int l7), (8, .int l8), (9, .int l9), (10, .int l10), (13, .double l13)] [.long s1, dnV b s0] (dnB (fX13_dotAnswer_j196 l0 l5 l7 l8 l9 l10 l13 s0 s1) (dnKo K113 E113)) := by
        intro l10 l13 s0 s1
        unfold fX13_dotAnswer_j196
        refine dn_putL (pc := 196) s0 lRX13_370 dX13_dotAnswer_196 ?_
        refine dn_aload_n (pc := 199) l0 0 dX13_dotAnswer_199 rfl ?_
        refine dn_dup (pc := 200) dX13_dotAnswer_200 (dn_cat b _) ?_
        refine dn_getD (pc := 201) l0 lRX13_376 dX13_dotAnswer_201 (fun v2 => ?_)
        refine dn_dload (pc := 204) 6 dX13_dotAnswer_204 rfl ?_
        refine dn_aload_n (pc := 206) l0 0 dX13_dotAnswer_206 rfl ?_
        refine dn_getD (pc := 207) l0 lRX13_193 dX13_dotAnswer_207 (fun v3 => ?_)
        refine dn_dmul (pc := 210) dX13_dotAnswer_210 (fun v4 => ?_)
        refine dn_dadd (pc := 211) dX13_dotAnswer_211 (fun v5 => ?_)
        refine dn_putD (pc := 212) l0 lRX13_376 dX13_dotAnswer_212 ?_
        refine dn_iinc (pc := 215) (l10 + 1) 5 dX13_dotAnswer_215 rfl rfl (Nat.le_of_ble_eq_true rfl) (dnKp_nb 4 rfl rfl rfl (dnKp_of (lv2 := [(0, dnV b l0), (5, .int l5), (7, .int l7), (8, .int l8)]) [0, 1, 2, 3] rfl rfl)) ?_
        refine dn_goto (pc := 218) 113 dX13_dotAnswer_218 rfl ?_
        refine dn_leaf ?_
        exact dn_lv [2, 3, 4, 5, 1, 0] rfl (hK113 (l10 + 1))
      refine dn_iload (pc := 113) 5 dX13_dotAnswer_113 rfl ?_
      refine dn_iload (pc := 115) 4 dX13_dotAnswer_115 rfl ?_
      refine dn_icmp_ge (pc := 117) 221 dX13_dotAnswer_117 rfl (fun _ => ?_) (fun _ => ?_)
      · refine dn_leaf ?_
        exact dn_lv [0, 1, 4] rfl (hE113 ())
      · refine dn_aload_n (pc := 120) l0 0 dX13_dotAnswer_120 rfl ?_
        refine dn_iload (pc := 121) 2 dX13_dotAnswer_121 rfl ?_
        refine dn_iload (pc := 123) 5 dX13_dotAnswer_123 rfl ?_
        refine dn_callV0U (pc := 125) [.int l7, .int s113] l0 kRX13_236 (mX13_loads w x b l0 l7 s113) rfl rfl (Nat.le_of_ble_eq_true rfl) ⟨(Nat.le_of_ble_eq_true rfl), (Nat.le_of_ble_eq_true rfl)⟩ ⟨rfl, rfl, (Nat.le_of_ble_eq_true rfl), (Nat.le_of_ble_eq_true rfl)⟩ dX13_dotAnswer_125 (fun _ => ?_)
        refine dn_aload_n (pc := 128) l0 0 dX13_dotAnswer_128 rfl ?_
        refine dn_iload (pc := 129) 1 dX13_dotAnswer_129 rfl ?_
        refine dn_callV0U (pc := 131) [.int l5] l0 kRX13_212 (mX13_widens w x b l0 l5) rfl rfl (Nat.le_of_ble_eq_true rfl) ⟨(Nat.le_of_ble_eq_true rfl), (Nat.le_of_ble_eq_true rfl)⟩ ⟨rfl, rfl, (Nat.le_of_ble_eq_true rfl), (Nat.le_of_ble_eq_true rfl)⟩ dX13_dotAnswer_131 (fun _ => ?_)
        refine dn_aload_n (pc := 134) l0 0 dX13_dotAnswer_134 rfl ?_
        refine dn_getL (pc := 135) l0 lRX13_197 dX13_dotAnswer_135 (fun v8 => ?_)
        refine dn_lstore (pc := 138) dX13_dotAnswer_138 (Nat.le_of_ble_eq_true rfl) (dnKp_nb 5 rfl rfl rfl (dnKp_of (lv2 := [(0, dnV b l0), (5, .int l5), (7, .int l7), (8, .int l8), (9, .int l9)]) [0, 1, 2, 3, 4] rfl rfl)) ?_
        refine dn_aload_n (pc := 140) l0 2 dX13_dotAnswer_140 rfl ?_
        refine dn_getD (pc := 141) l0 lRX13_193 dX13_dotAnswer_141 (fun v9 => ?_)
        refine dn_dstore (pc := 144) dX13_dotAnswer_144 (Nat.le_of_ble_eq_true rfl) (dnKp_of (lv2 := [(11, .long v8), (10, .int s113), (0, dnV b l0), (5, .int l5), (7, .int l7), (8, .int l8), (9, .int l9)]) [0, 1, 2, 3, 4, 5, 6] rfl rfl) ?_
        refine dn_aload_n (pc := 146) l0 3 dX13_dotAnswer_146 rfl ?_
        refine dn_iload (pc := 147) 6 dX13_dotAnswer_147 rfl ?_
        refine dn_iload (pc := 149) 2 dX13_dotAnswer_149 rfl ?_
        refine dn_callV0U (pc := 151) [.int l8, .int s113] l0 kRX13_236 (mX13_loads w x b l0 l8 s113) rfl rfl (Nat.le_of_ble_eq_true rfl) ⟨(Nat.le_of_ble_eq_true rfl), (Nat.le_of_ble_eq_true rfl)⟩ ⟨rfl, rfl, (Nat.le_of_ble_eq_true rfl), (Nat.le_of_ble_eq_true rfl)⟩ dX13_dotAnswer_151 (fun _ => ?_)
        refine dn_aload_n (pc := 154) l0 3 dX13_dotAnswer_154 rfl ?_
        refine dn_iload (pc := 155) 4 dX13_dotAnswer_155 rfl ?_
        refine dn_callV0U (pc := 157) [.int l5] l0 kRX13_212 (mX13_widens w x b l0 l5) rfl rfl (Nat.le_of_ble_eq_true rfl) ⟨(Nat.le_of_ble_eq_true rfl), (Nat.le_of_ble_eq_true rfl)⟩ ⟨rfl, rfl, (Nat.le_of_ble_eq_true rfl), (Nat.le_of_ble_eq_true rfl)⟩ dX13_dotAnswer_157 (fun _ => ?_)
        refine dn_aload_n (pc := 160) l0 3 dX13_dotAnswer_160 rfl ?_
        refine dn_iload (pc := 161) 4 dX13_dotAnswer_161 rfl ?_
        refine dn_iconst (pc := 163) (v := 4) dX13_dotAnswer_163 rfl ?_
        refine dn_icmp_ne (pc := 164) 184 dX13_dotAnswer_164 rfl (fun _ => ?_) (fun _ => ?_)
        · refine dn_aload_n (pc := 184) l0 3 dX13_dotAnswer_184 rfl ?_
          refine dn_getL (pc := 185) l0 lRX13_370 dX13_dotAnswer_185 (fun v12 => ?_)
          refine dn_lload (pc := 188) 1 dX13_dotAnswer_188 rfl ?_
          refine dn_aload_n (pc := 190) l0 3 dX13_dotAnswer_190 rfl ?_
          refine dn_getL (pc := 191) l0 lRX13_197 dX13_dotAnswer_191 (fun v13 => ?_)
          refine dn_lmul (pc := 194) dX13_dotAnswer_194 ?_
          refine dn_ladd (pc := 195) dX13_dotAnswer_195 ?_
          exact dn_lv [3, 4, 5, 6, 7, 2, 0] rfl (hj196 s113 v9 l0 (v12 + (v8 * v13)))
        · refine dn_aload_n (pc := 167) l0 3 dX13_dotAnswer_167 rfl ?_
          refine dn_getL (pc := 168) l0 lRX13_370 dX13_dotAnswer_168 (fun v14 => ?_)
          refine dn_lload (pc := 171) 1 dX13_dotAnswer_171 rfl ?_
          refine dn_aload_n (pc := 173) l0 3 dX13_dotAnswer_173 rfl ?_
          refine dn_getL (pc := 174) l0 lRX13_197 dX13_dotAnswer_174 (fun v15 => ?_)
          refine dn_lmul (pc := 177) dX13_dotAnswer_177 ?_
          refine dn_ladd (pc := 178) dX13_dotAnswer_178 ?_
          refine dn_l2i (pc := 179) dX13_dotAnswer_179 ?_
          refine dn_i2l (pc := 180) dX13_dotAnswer_180 ?_
          refine dn_goto (pc := 181) 196 dX13_dotAnswer_181 rfl ?_
          exact dn_lv [3, 4, 5, 6, 7, 2, 0] rfl (hj196 s113 v9 l0 (((((v14 + (v8 * v15)) : Int64).toInt32) : Int32).toInt64))
    · refine dn_aload_n (pc := 221) l0 0 dX13_dotAnswer_221 rfl ?_
      refine dn_iload (pc := 222) 1 dX13_dotAnswer_222 rfl ?_
      refine dn_bipush (pc := 224) (v := 7) dX13_dotAnswer_224 rfl ?_
      refine dn_icmp_ne (pc := 226) 241 dX13_dotAnswer_226 rfl (fun _ => ?_) (fun _ => ?_)
      · refine dn_aload_n (pc := 241) l0 0 dX13_dotAnswer_241 rfl ?_
        refine dn_getL (pc := 242) l0 lRX13_370 dX13_dotAnswer_242 (fun v16 => ?_)
        exact dn_lv [2] rfl (hj245 l9 l0 v16)
      · refine dn_ldc2d (pc := 229) kRX13_201 dX13_dotAnswer_229 ?_
        refine dn_aload_n (pc := 232) l0 0 dX13_dotAnswer_232 rfl ?_
        refine dn_getD (pc := 233) l0 lRX13_376 dX13_dotAnswer_233 (fun v17 => ?_)
        refine dn_dmul (pc := 236) dX13_dotAnswer_236 (fun v18 => ?_)
        refine dn_d2l (pc := 237) dX13_dotAnswer_237 ?_
        refine dn_goto (pc := 238) 245 dX13_dotAnswer_238 rfl ?_
        exact dn_lv [2] rfl (hj245 l9 l0 (FP.d2l v18))
  refine dn_iload_n (pc := 0) 1 dX13_dotAnswer_0 rfl ?_
  refine dn_callS0Z (pc := 1) [.int p1]  kRX13_134 (mX13_isGrid w x b p1) rfl rfl (Nat.le_of_ble_eq_true rfl) ⟨(Nat.le_of_ble_eq_true rfl), (Nat.le_of_ble_eq_true rfl)⟩ ⟨rfl, rfl, (Nat.le_of_ble_eq_true rfl), (Nat.le_of_ble_eq_true rfl)⟩ dX13_dotAnswer_1 (fun v19 => ?_)
  refine dn_ifz_eq (pc := 4) 22 dX13_dotAnswer_4 rfl (fun _ => ?_) (fun _ => ?_)
  · refine dn_iload_n (pc := 7) 3 dX13_dotAnswer_7 rfl ?_
    refine dn_callS0Z (pc := 8) [.int p3]  kRX13_134 (mX13_isGrid w x b p3) rfl rfl (Nat.le_of_ble_eq_true rfl) ⟨(Nat.le_of_ble_eq_true rfl), (Nat.le_of_ble_eq_true rfl)⟩ ⟨rfl, rfl, (Nat.le_of_ble_eq_true rfl), (Nat.le_of_ble_eq_true rfl)⟩ dX13_dotAnswer_8 (fun v20 => ?_)
    refine dn_ifz_eq (pc := 11) 22 dX13_dotAnswer_11 rfl (fun _ => ?_) (fun _ => ?_)
    · refine dn_iload (pc := 14) 5 dX13_dotAnswer_14 rfl ?_
      refine dn_callS0Z (pc := 16) [.int p5]  kRX13_379 (mX13_isAs w x b p5) rfl rfl (Nat.le_of_ble_eq_true rfl) ⟨(Nat.le_of_ble_eq_true rfl), (Nat.le_of_ble_eq_true rfl)⟩ ⟨rfl, rfl, (Nat.le_of_ble_eq_true rfl), (Nat.le_of_ble_eq_true rfl)⟩ dX13_dotAnswer_16 (fun v21 => ?_)
      refine dn_ifz_ne (pc := 19) 24 dX13_dotAnswer_19 rfl (fun _ => ?_) (fun _ => ?_)
      · refine dn_aload_n (pc := 24) r0 0 dX13_dotAnswer_24 rfl ?_
        refine dn_iload_n (pc := 25) 1 dX13_dotAnswer_25 rfl ?_
        refine dn_iload_n (pc := 26) 2 dX13_dotAnswer_26 rfl ?_
        refine dn_iload_n (pc := 27) 3 dX13_dotAnswer_27 rfl ?_
        refine dn_iload (pc := 28) 4 dX13_dotAnswer_28 rfl ?_
        refine dn_callV0I (pc := 30) [.int p1, .int p2, .int p3, .int p4] r0 kRX13_181 (mX13_twoRows w x b r0 p1 p2 p3 p4) rfl rfl (Nat.le_of_ble_eq_true rfl) ⟨(Nat.le_of_ble_eq_true rfl), (Nat.le_of_ble_eq_true rfl)⟩ ⟨rfl, rfl, (Nat.le_of_ble_eq_true rfl), (Nat.le_of_ble_eq_true rfl)⟩ dX13_dotAnswer_30 (fun v22 => ?_)
        refine dn_istore (pc := 33) dX13_dotAnswer_33 (Nat.le_of_ble_eq_true rfl) (dnKp_nb 5 rfl rfl rfl (dnKp_of (lv2 := [(0, dnV b r0), (1, .int p1), (2, .int p2), (3, .int p3), (4, .int p4)]) [0, 1, 2, 3, 4] rfl rfl)) ?_
        refine dn_iload (pc := 35) 0 dX13_dotAnswer_35 rfl ?_
        refine dn_if_eq (pc := 37) 43 dX13_dotAnswer_37 rfl (fun _ => ?_) (fun _ => ?_)
        · refine dn_aload_n (pc := 43) r0 2 dX13_dotAnswer_43 rfl ?_
          refine dn_iload_n (pc := 44) 3 dX13_dotAnswer_44 rfl ?_
          refine dn_iload_n (pc := 45) 4 dX13_dotAnswer_45 rfl ?_
          refine dn_callV0I (pc := 46) [.int p1, .int p2] r0 kRX13_128 (mX13_held w x b r0 p1 p2) rfl rfl (Nat.le_of_ble_eq_true rfl) ⟨(Nat.le_of_ble_eq_true rfl), (Nat.le_of_ble_eq_true rfl)⟩ ⟨rfl, rfl, (Nat.le_of_ble_eq_true rfl), (Nat.le_of_ble_eq_true rfl)⟩ dX13_dotAnswer_46 (fun v23 => ?_)
          refine dn_istore (pc := 49) dX13_dotAnswer_49 (Nat.le_of_ble_eq_true rfl) (dnKp_of (lv2 := [(5, .int p5), (0, dnV b r0), (3, .int p3), (4, .int p4)]) [1, 2, 5, 6] rfl rfl) ?_
          refine dn_aload_n (pc := 51) r0 2 dX13_dotAnswer_51 rfl ?_
          refine dn_iload_n (pc := 52) 3 dX13_dotAnswer_52 rfl ?_
          refine dn_iload (pc := 53) 4 dX13_dotAnswer_53 rfl ?_
          refine dn_callV0I (pc := 55) [.int p3, .int p4] r0 kRX13_128 (mX13_held w x b r0 p3 p4) rfl rfl (Nat.le_of_ble_eq_true rfl) ⟨(Nat.le_of_ble_eq_true rfl), (Nat.le_of_ble_eq_true rfl)⟩ ⟨rfl, rfl, (Nat.le_of_ble_eq_true rfl), (Nat.le_of_ble_eq_true rfl)⟩ dX13_dotAnswer_55 (fun v24 => ?_)
          refine dn_istore (pc := 58) dX13_dotAnswer_58 (Nat.le_of_ble_eq_true rfl) (dnKp_nb 0 rfl rfl rfl (dnKp_of (lv2 := [(5, .int p5), (0, dnV b r0)]) [1, 2] rfl rfl)) ?_
          refine dn_aload_n (pc := 60) r0 3 dX13_dotAnswer_60 rfl ?_
          refine dn_iload (pc := 61) 1 dX13_dotAnswer_61 rfl ?_
          refine dn_iload (pc := 63) 0 dX13_dotAnswer_63 rfl ?_
          refine dn_callV0I (pc := 65) [.int v23, .int v24] r0 kRX13_271 (mX13_both w x b r0 v23 v24) rfl rfl (Nat.le_of_ble_eq_true rfl) ⟨(Nat.le_of_ble_eq_true rfl), (Nat.le_of_ble_eq_true rfl)⟩ ⟨rfl, rfl, (Nat.le_of_ble_eq_true rfl), (Nat.le_of_ble_eq_true rfl)⟩ dX13_dotAnswer_65 (fun v25 => ?_)
          refine dn_istore (pc := 68) dX13_dotAnswer_68 (Nat.le_of_ble_eq_true rfl) (dnKp_nb 0 rfl rfl rfl (dnKp_of (lv2 := [(7, .int v23), (5, .int p5), (0, dnV b r0)]) [1, 2, 3] rfl rfl)) ?_
          refine dn_iload (pc := 70) 0 dX13_dotAnswer_70 rfl ?_
          refine dn_if_le (pc := 72) 100 dX13_dotAnswer_72 rfl (fun _ => ?_) (fun _ => ?_)
          · exact dn_lv [4, 3, 2, 1, 0] rfl (hj100 r0 p5 v23 v24 v25)
          · refine dn_aload_n (pc := 75) r0 4 dX13_dotAnswer_75 rfl ?_
            refine dn_iload (pc := 76) 2 dX13_dotAnswer_76 rfl ?_
            refine dn_iload (pc := 78) 3 dX13_dotAnswer_78 rfl ?_
            refine dn_callV0Z (pc := 80) [.int v23, .int p5] r0 kRX13_233 (mX13_isReadable w x b r0 v23 p5) rfl rfl (Nat.le_of_ble_eq_true rfl) ⟨(Nat.le_of_ble_eq_true rfl), (Nat.le_of_ble_eq_true rfl)⟩ ⟨rfl, rfl, (Nat.le_of_ble_eq_true rfl), (Nat.le_of_ble_eq_true rfl)⟩ dX13_dotAnswer_80 (fun v26 => ?_)
            refine dn_ifz_eq (pc := 83) 97 dX13_dotAnswer_83 rfl (fun _ => ?_) (fun _ => ?_)
            · refine dn_aload_n (pc := 86) r0 4 dX13_dotAnswer_86 rfl ?_
              refine dn_iload (pc := 87) 1 dX13_dotAnswer_87 rfl ?_
              refine dn_iload (pc := 89) 3 dX13_dotAnswer_89 rfl ?_
              refine dn_callV0Z (pc := 91) [.int v24, .int p5] r0 kRX13_233 (mX13_isReadable w x b r0 v24 p5) rfl rfl (Nat.le_of_ble_eq_true rfl) ⟨(Nat.le_of_ble_eq_true rfl), (Nat.le_of_ble_eq_true rfl)⟩ ⟨rfl, rfl, (Nat.le_of_ble_eq_true rfl), (Nat.le_of_ble_eq_true rfl)⟩ dX13_dotAnswer_91 (fun v27 => ?_)
              refine dn_ifz_ne (pc := 94) 100 dX13_dotAnswer_94 rfl (fun _ => ?_) (fun _ => ?_)
              · exact dn_lv [4, 3, 2, 1, 0] rfl (hj100 r0 p5 v23 v24 v25)
              · refine dn_bipush (pc := 97) (v := -7) dX13_dotAnswer_97 rfl ?_
                exact dn_ret (Nat.le_of_ble_eq_true rfl) (Nat.le_of_ble_eq_true rfl) rfl dX13_dotAnswer_99
            · refine dn_bipush (pc := 97) (v := -7) dX13_dotAnswer_97 rfl ?_
              exact dn_ret (Nat.le_of_ble_eq_true rfl) (Nat.le_of_ble_eq_true rfl) rfl dX13_dotAnswer_99
        · refine dn_iload (pc := 40) 0 dX13_dotAnswer_40 rfl ?_
          exact dn_ret (Nat.le_of_ble_eq_true rfl) (Nat.le_of_ble_eq_true rfl) rfl dX13_dotAnswer_42
      · refine dn_iconst (pc := 22) (v := -1) dX13_dotAnswer_22 rfl ?_
        exact dn_ret (Nat.le_of_ble_eq_true rfl) (Nat.le_of_ble_eq_true rfl) rfl dX13_dotAnswer_23
    · refine dn_iconst (pc := 22) (v := -1) dX13_dotAnswer_22 rfl ?_
      exact dn_ret (Nat.le_of_ble_eq_true rfl) (Nat.le_of_ble_eq_true rfl) rfl dX13_dotAnswer_23
  · refine dn_iconst (pc := 22) (v := -1) dX13_dotAnswer_22 rfl ?_
    exact dn_ret (Nat.le_of_ble_eq_true rfl) (Nat.le_of_ble_eq_true rfl) rfl dX13_dotAnswer_23
abbrev rmX13_dot : Room := { frames := 5, cells := 0, slots := 0, locals := 127 }
def fX13_dot (r0 : Option Nat) (p1 : Int32) (p2 : Int32) (p3 : Int32) (p4 : Int32) (p5 : Int32) : dnM Int32 :=
  dnB (dnCv r0 11 (fX13_dotAnswer r0 p1 p2 p3 p4 p5)) fun v1 =>
  dnB (dnCv r0 11 (fX13_said r0 v1)) fun v2 =>
  dnP v2
abbrev jX13_dot (w : dnWd) (x : dnX) (b : Nat) := dnD w x b (fun _ => True) cX13_dot RX13 6 rmX13_dot "dot" eI
set_option maxHeartbeats 4000000 in
set_option maxRecDepth 100000 in
theorem mX13_dot (w : dnWd) (x : dnX) (b : Nat) (r0 : Option Nat) (p1 : Int32) (p2 : Int32) (p3 : Int32) (p4 : Int32) (p5 : Int32) : dnMt w x b yX13_dot cX13_dot 6 (some .int) rmX13_dot eI [dnV b r0, .int p1, .int p2, .int p3, .int p4, .int p5] (fX13_dot r0 p1 p2 p3 p4 p5) := by
  have hlv : lv_args 0 [dnV b r0, .int p1, .int p2, .int p3, .int p4, .int p5] = [(0, dnV b r0), (1, .int p1), (2, .int p2), (3, .int p3), (4, .int p4), (5, .int p5)] := by cases r0 <;> rfl
  refine dn_mt (by decide +kernel) roI (by cases r0 <;> exact (Nat.le_of_ble_eq_true rfl)) ?_
  rw [hlv]
  refine dn_top ?_
  show jX13_dot w x b 0 0 0 _ [] (dnB _ dnP)
  unfold fX13_dot
  refine dn_aload_n (pc := 0) r0 0 dX13_dot_0 rfl ?_
  refine dn_aload_n (pc := 1) r0 0 dX13_dot_1 rfl ?_
  refine dn_iload_n (pc := 2) 1 dX13_dot_2 rfl ?_
  refine dn_iload_n (pc := 3) 2 dX13_dot_3 rfl ?_
  refine dn_iload_n (pc := 4) 3 dX13_dot_4 rfl ?_
  refine dn_iload (pc := 5) 4 dX13_dot_5 rfl ?_
  refine dn_iload (pc := 7) 5 dX13_dot_7 rfl ?_
  refine dn_callV0I (pc := 9) [.int p1, .int p2, .int p3, .int p4, .int p5] r0 kRX13_403 (mX13_dotAnswer w x b r0 p1 p2 p3 p4 p5) rfl rfl (Nat.le_of_ble_eq_true rfl) ⟨(Nat.le_of_ble_eq_true rfl), (Nat.le_of_ble_eq_true rfl)⟩ ⟨rfl, rfl, (Nat.le_of_ble_eq_true rfl), (Nat.le_of_ble_eq_true rfl)⟩ dX13_dot_9 (fun v1 => ?_)
  refine dn_callV0I (pc := 12) [.int v1] r0 kRX13_137 (mX13_said w x b r0 v1) rfl rfl (Nat.le_of_ble_eq_true rfl) ⟨(Nat.le_of_ble_eq_true rfl), (Nat.le_of_ble_eq_true rfl)⟩ ⟨rfl, rfl, (Nat.le_of_ble_eq_true rfl), (Nat.le_of_ble_eq_true rfl)⟩ dX13_dot_12 (fun v2 => ?_)
  exact dn_ret (Nat.le_of_ble_eq_true rfl) (Nat.le_of_ble_eq_true rfl) rfl dX13_dot_15
abbrev rmX13_drop : Room := { frames := 3, cells := 0, slots := 0, locals := 68 }
def fX13_drop (r0 : Option Nat) (p1 : Int32) : dnM Int32 :=
  dnB (dnCv r0 11 (fX13_dropDeed r0 p1)) fun v1 =>
  dnB (dnCv r0 11 (fX13_said r0 v1)) fun v2 =>
  dnP v2
abbrev jX13_drop (w : dnWd) (x : dnX) (b : Nat) := dnD w x b (fun _ => True) cX13_drop RX13 2 rmX13_drop "drop" eI
set_option maxHeartbeats 4000000 in
set_option maxRecDepth 100000 in
theorem mX13_drop (w : dnWd) (x : dnX) (b : Nat) (r0 : Option Nat) (p1 : Int32) : dnMt w x b yX13_drop cX13_drop 2 (some .int) rmX13_drop eI [dnV b r0, .int p1] (fX13_drop r0 p1) := by
  have hlv : lv_args 0 [dnV b r0, .int p1] = [(0, dnV b r0), (1, .int p1)] := by cases r0 <;> rfl
  refine dn_mt (by decide +kernel) roI (by cases r0 <;> exact (Nat.le_of_ble_eq_true rfl)) ?_
  rw [hlv]
  refine dn_top ?_
  show jX13_drop w x b 0 0 0 _ [] (dnB _ dnP)
  unfold fX13_drop
  refine dn_aload_n (pc := 0) r0 0 dX13_drop_0 rfl ?_
  refine dn_aload_n (pc := 1) r0 0 dX13_drop_1 rfl ?_
  refine dn_iload_n (pc := 2) 1 dX13_drop_2 rfl ?_
  refine dn_callV0I (pc := 3) [.int p1] r0 kRX13_149 (mX13_dropDeed w x b r0 p1) rfl rfl (Nat.le_of_ble_eq_true rfl) ⟨(Nat.le_of_ble_eq_true rfl), (Nat.le_of_ble_eq_true rfl)⟩ ⟨rfl, rfl, (Nat.le_of_ble_eq_true rfl), (Nat.le_of_ble_eq_true rfl)⟩ dX13_drop_3 (fun v1 => ?_)
  refine dn_callV0I (pc := 6) [.int v1] r0 kRX13_137 (mX13_said w x b r0 v1) rfl rfl (Nat.le_of_ble_eq_true rfl) ⟨(Nat.le_of_ble_eq_true rfl), (Nat.le_of_ble_eq_true rfl)⟩ ⟨rfl, rfl, (Nat.le_of_ble_eq_true rfl), (Nat.le_of_ble_eq_true rfl)⟩ dX13_drop_6 (fun v2 => ?_)
  exact dn_ret (Nat.le_of_ble_eq_true rfl) (Nat.le_of_ble_eq_true rfl) rfl dX13_drop_9
abbrev rmX13_isSort : Room := { frames := 1, cells := 0, slots := 0, locals := 22 }
def fX13_isSort (p0 : Int32) : dnM Bool :=
  dnB (fX13_in p0 0 11) fun v1 =>
  dnP v1
abbrev jX13_isSort (w : dnWd) (x : dnX) (b : Nat) := dnD w x b (fun _ => True) cX13_isSort RX13 1 rmX13_isSort "isSort" eZ
set_option maxHeartbeats 4000000 in
set_option maxRecDepth 100000 in
theorem mX13_isSort (w : dnWd) (x : dnX) (b : Nat) (p0 : Int32) : dnMt w x b yX13_isSort cX13_isSort 1 (some .boolean) rmX13_isSort eZ [.int p0] (fX13_isSort p0) := by
  have hlv : lv_args 0 [.int p0] = [(0, .int p0)] := by rfl
  refine dn_mt (by decide +kernel) roZ (by exact (Nat.le_of_ble_eq_true rfl)) ?_
  rw [hlv]
  refine dn_top ?_
  show jX13_isSort w x b 0 0 0 _ [] (dnB _ dnP)
  unfold fX13_isSort
  refine dn_iload_n (pc := 0) 0 dX13_isSort_0 rfl ?_
  refine dn_iconst (pc := 1) (v := 0) dX13_isSort_1 rfl ?_
  refine dn_bipush (pc := 2) (v := 11) dX13_isSort_2 rfl ?_
  refine dn_callS0Z (pc := 4) [.int p0, .int 0, .int 11]  kRX13_109 (mX13_in w x b p0 0 11) rfl rfl (Nat.le_of_ble_eq_true rfl) ⟨(Nat.le_of_ble_eq_true rfl), (Nat.le_of_ble_eq_true rfl)⟩ ⟨rfl, rfl, (Nat.le_of_ble_eq_true rfl), (Nat.le_of_ble_eq_true rfl)⟩ dX13_isSort_4 (fun v1 => ?_)
  exact dn_ret (Nat.le_of_ble_eq_true rfl) (Nat.le_of_ble_eq_true rfl) rfl dX13_isSort_7
abbrev rmX13_findAnswer : Room := { frames := 3, cells := 0, slots := 0, locals := 71 }
def fX13_findAnswer_b50 (c0 : Option Nat) (c7 : Int32) (s50 : Int32) : dnM ((Int32) ⊕ ((Unit) ⊕ Int32)) :=
  dnB (dnGR c0 11 7) fun v6 =>
  dnB (dnAI v6 100 c7) fun v7 =>
  if v7 ≤ s50 then
  (dnP (.inr (.inl ())))
  else
  (dnB (dnGR c0 11 9) fun v8 =>
  dnB (dnAI v8 100 ((12 * c7) + s50)) fun v9 =>
  dnB (dnGR c0 11 10) fun v10 =>
  dnB (dnAL v10 102 ((12 * c7) + s50)) fun v11 =>
  dnB (dnGR c0 11 11) fun v12 =>
  dnB (dnAD v12 103 ((12 * c7) + s50)) fun v13 =>
  dnB (dnGI c0 11 12) fun v14 =>
  dnB (dnGL c0 11 13) fun v15 =>
  dnB (dnGD c0 11 14) fun v16 =>
  dnB (fX13_areLike v9 v11 v13 v14 v15 v16) fun v17 =>
  if v17 = true then
  (dnP (.inr (.inr s50)))
  else
  (dnP (.inl (s50 + 1))))
def fX13_findAnswer (r0 : Option Nat) (p1 : Int32) (p2 : Int32) (p3 : Int32) (p4 : Int64) : dnM Int32 :=
  dnB (fX13_isGrid p1) fun v1 =>
  if v1 = true then
  (dnB (fX13_isSort p3) fun v2 =>
  if v2 = true then
  (dnB (dnCv r0 11 (fX13_rowFault r0 p1 p2)) fun v3 =>
  if v3 = 0 then
  (dnB (dnCv r0 11 (fX13_held r0 p1 p2)) fun v4 =>
  dnB (dnCv r0 11 (fX13_makes r0 p3 p4)) fun _ =>
  dnB (dnIt 1000 (fX13_findAnswer_b50 r0 v4) 0) fun q_ => q_.elim (fun q50 => dnP (-9)) (fun v_ => dnP v_))
  else
  (dnP v3))
  else
  (dnP (-1)))
  else
  (dnP (-1))
abbrev jX13_findAnswer (w : dnWd) (x : dnX) (b : Nat) := dnD w x b (fun _ => True) cX13_findAnswer RX13 10 rmX13_findAnswer "findAnswer" eI
set_option maxHeartbeats 4000000 in
set_option maxRecDepth 100000 in
theorem mX13_findAnswer (w : dnWd) (x : dnX) (b : Nat) (r0 : Option Nat) (p1 : Int32) (p2 : Int32) (p3 : Int32) (p4 : Int64) : dnMt w x b yX13_findAnswer cX13_findAnswer 10 (some .int) rmX13_findAnswer eI [dnV b r0, .int p1, .int p2, .int p3, .long p4] (fX13_findAnswer r0 p1 p2 p3 p4) := by
  have hlv : lv_args 0 [dnV b r0, .int p1, .int p2, .int p3, .long p4] = [(0, dnV b r0), (1, .int p1), (2, .int p2), (3, .int p3), (4, .long p4)] := by cases r0 <;> rfl
  refine dn_mt (by decide +kernel) roI (by cases r0 <;> exact (Nat.le_of_ble_eq_true rfl)) ?_
  rw [hlv]
  refine dn_top ?_
  show jX13_findAnswer w x b 0 0 0 _ [] (dnB _ dnP)
  unfold fX13_findAnswer
  refine dn_iload_n (pc := 0) 1 dX13_findAnswer_0 rfl ?_
  refine dn_callS0Z (pc := 1) [.int p1]  kRX13_134 (mX13_isGrid w x b p1) rfl rfl (Nat.le_of_ble_eq_true rfl) ⟨(Nat.le_of_ble_eq_true rfl), (Nat.le_of_ble_eq_true rfl)⟩ ⟨rfl, rfl, (Nat.le_of_ble_eq_true rfl), (Nat.le_of_ble_eq_true rfl)⟩ dX13_findAnswer_1 (fun v1 => ?_)
  refine dn_ifz_eq (pc := 4) 14 dX13_findAnswer_4 rfl (fun _ => ?_) (fun _ => ?_)
  · refine dn_iload_n (pc := 7) 3 dX13_findAnswer_7 rfl ?_
    refine dn_callS0Z (pc := 8) [.int p3]  kRX13_261 (mX13_isSort w x b p3) rfl rfl (Nat.le_of_ble_eq_true rfl) ⟨(Nat.le_of_ble_eq_true rfl), (Nat.le_of_ble_eq_true rfl)⟩ ⟨rfl, rfl, (Nat.le_of_ble_eq_true rfl), (Nat.le_of_ble_eq_true rfl)⟩ dX13_findAnswer_8 (fun v2 => ?_)
    refine dn_ifz_ne (pc := 11) 16 dX13_findAnswer_11 rfl (fun _ => ?_) (fun _ => ?_)
    · refine dn_aload_n (pc := 16) r0 0 dX13_findAnswer_16 rfl ?_
      refine dn_iload_n (pc := 17) 1 dX13_findAnswer_17 rfl ?_
      refine dn_iload_n (pc := 18) 2 dX13_findAnswer_18 rfl ?_
      refine dn_callV0I (pc := 19) [.int p1, .int p2] r0 kRX13_131 (mX13_rowFault w x b r0 p1 p2) rfl rfl (Nat.le_of_ble_eq_true rfl) ⟨(Nat.le_of_ble_eq_true rfl), (Nat.le_of_ble_eq_true rfl)⟩ ⟨rfl, rfl, (Nat.le_of_ble_eq_true rfl), (Nat.le_of_ble_eq_true rfl)⟩ dX13_findAnswer_19 (fun v3 => ?_)
      refine dn_istore (pc := 22) dX13_findAnswer_22 (Nat.le_of_ble_eq_true rfl) (dnKp_of (lv2 := [(0, dnV b r0), (1, .int p1), (2, .int p2), (3, .int p3), (4, .long p4)]) [0, 1, 2, 3, 4] rfl rfl) ?_
      refine dn_iload (pc := 24) 0 dX13_findAnswer_24 rfl ?_
      refine dn_if_eq (pc := 26) 32 dX13_findAnswer_26 rfl (fun _ => ?_) (fun _ => ?_)
      · refine dn_aload_n (pc := 32) r0 1 dX13_findAnswer_32 rfl ?_
        refine dn_iload_n (pc := 33) 2 dX13_findAnswer_33 rfl ?_
        refine dn_iload_n (pc := 34) 3 dX13_findAnswer_34 rfl ?_
        refine dn_callV0I (pc := 35) [.int p1, .int p2] r0 kRX13_128 (mX13_held w x b r0 p1 p2) rfl rfl (Nat.le_of_ble_eq_true rfl) ⟨(Nat.le_of_ble_eq_true rfl), (Nat.le_of_ble_eq_true rfl)⟩ ⟨rfl, rfl, (Nat.le_of_ble_eq_true rfl), (Nat.le_of_ble_eq_true rfl)⟩ dX13_findAnswer_35 (fun v4 => ?_)
        refine dn_istore (pc := 38) dX13_findAnswer_38 (Nat.le_of_ble_eq_true rfl) (dnKp_of (lv2 := [(0, dnV b r0), (3, .int p3), (4, .long p4)]) [1, 4, 5] rfl rfl) ?_
        refine dn_aload_n (pc := 40) r0 1 dX13_findAnswer_40 rfl ?_
        refine dn_iload_n (pc := 41) 2 dX13_findAnswer_41 rfl ?_
        refine dn_lload (pc := 42) 3 dX13_findAnswer_42 rfl ?_
        refine dn_callV0U (pc := 44) [.int p3, .long p4] r0 kRX13_250 (mX13_makes w x b r0 p3 p4) rfl rfl (Nat.le_of_ble_eq_true rfl) ⟨(Nat.le_of_ble_eq_true rfl), (Nat.le_of_ble_eq_true rfl)⟩ ⟨rfl, rfl, (Nat.le_of_ble_eq_true rfl), (Nat.le_of_ble_eq_true rfl)⟩ dX13_findAnswer_44 (fun _ => ?_)
        refine dn_iconst (pc := 47) (v := 0) dX13_findAnswer_47 rfl ?_
        refine dn_istore (pc := 48) dX13_findAnswer_48 (Nat.le_of_ble_eq_true rfl) (dnKp_nb 0 rfl rfl rfl (dnKp_of (lv2 := [(0, dnV b r0)]) [1] rfl rfl)) ?_
        refine dn_assoc ?_
        refine dn_lv [2, 1, 0] (lv2 := (fun s => [(0, dnV b r0), (7, .int v4), (8, .int s)]) 0) rfl ?_
        refine dn_loopR (pc := 50) (body := fX13_findAnswer_b50 r0 v4) 120 (fun s => [(0, dnV b r0), (7, .int v4), (8, .int s)]) (fun q => []) (fun s50 K50 E50 hK50 hE50 hR50 => ?_) (dn_rt (Nat.le_of_ble_eq_true rfl) (Nat.le_of_ble_eq_true rfl) (fun _ => rfl)) (fun q50 => ?_) 1000 0
        · unfold fX13_findAnswer_b50
          refine dn_iload (pc := 50) 2 dX13_findAnswer_50 rfl ?_
          refine dn_aload_n (pc := 52) r0 0 dX13_findAnswer_52 rfl ?_
          refine dn_getR (pc := 53) r0 lRX13_26 dX13_findAnswer_53 (fun v6 => ?_)
          refine dn_iload (pc := 56) 1 dX13_findAnswer_56 rfl ?_
          refine dn_iald (pc := 58) v6 dX13_findAnswer_58 (fun v7 => ?_)
          refine dn_icmp_ge (pc := 59) 120 dX13_findAnswer_59 rfl (fun _ => ?_) (fun _ => ?_)
          · refine dn_leaf ?_
            exact dn_lv [] rfl (hE50 ())
          · refine dn_bipush (pc := 62) (v := 12) dX13_findAnswer_62 rfl ?_
            refine dn_iload (pc := 64) 1 dX13_findAnswer_64 rfl ?_
            refine dn_imul (pc := 66) dX13_findAnswer_66 ?_
            refine dn_iload (pc := 67) 2 dX13_findAnswer_67 rfl ?_
            refine dn_iadd (pc := 69) dX13_findAnswer_69 ?_
            refine dn_istore (pc := 70) dX13_findAnswer_70 (Nat.le_of_ble_eq_true rfl) (dnKp_nb 2 rfl rfl rfl (dnKp_of (lv2 := [(0, dnV b r0), (7, .int v4)]) [0, 1] rfl rfl)) ?_
            refine dn_aload_n (pc := 72) r0 2 dX13_findAnswer_72 rfl ?_
            refine dn_getR (pc := 73) r0 lRX13_32 dX13_findAnswer_73 (fun v8 => ?_)
            refine dn_iload (pc := 76) 0 dX13_findAnswer_76 rfl ?_
            refine dn_iald (pc := 78) v8 dX13_findAnswer_78 (fun v9 => ?_)
            refine dn_aload_n (pc := 79) r0 2 dX13_findAnswer_79 rfl ?_
            refine dn_getR (pc := 80) r0 lRX13_35 dX13_findAnswer_80 (fun v10 => ?_)
            refine dn_iload (pc := 83) 0 dX13_findAnswer_83 rfl ?_
            refine dn_lald (pc := 85) v10 dX13_findAnswer_85 (fun v11 => ?_)
            refine dn_aload_n (pc := 86) r0 2 dX13_findAnswer_86 rfl ?_
            refine dn_getR (pc := 87) r0 lRX13_39 dX13_findAnswer_87 (fun v12 => ?_)
            refine dn_iload (pc := 90) 0 dX13_findAnswer_90 rfl ?_
            refine dn_dald (pc := 92) v12 dX13_findAnswer_92 (fun v13 => ?_)
            refine dn_aload_n (pc := 93) r0 2 dX13_findAnswer_93 rfl ?_
            refine dn_getI (pc := 94) r0 lRX13_190 dX13_findAnswer_94 (fun v14 => ?_)
            refine dn_aload_n (pc := 97) r0 2 dX13_findAnswer_97 rfl ?_
            refine dn_getL (pc := 98) r0 lRX13_197 dX13_findAnswer_98 (fun v15 => ?_)
            refine dn_aload_n (pc := 101) r0 2 dX13_findAnswer_101 rfl ?_
            refine dn_getD (pc := 102) r0 lRX13_193 dX13_findAnswer_102 (fun v16 => ?_)
            refine dn_callS0Z (pc := 105) [.int v9, .long v11, .double v13, .int v14, .long v15, .double v16]  kRX13_226 (mX13_areLike w x b v9 v11 v13 v14 v15 v16) rfl rfl (Nat.le_of_ble_eq_true rfl) ⟨(Nat.le_of_ble_eq_true rfl), (Nat.le_of_ble_eq_true rfl)⟩ ⟨rfl, rfl, (Nat.le_of_ble_eq_true rfl), (Nat.le_of_ble_eq_true rfl)⟩ dX13_findAnswer_105 (fun v17 => ?_)
            refine dn_ifz_eq (pc := 108) 114 dX13_findAnswer_108 rfl (fun _ => ?_) (fun _ => ?_)
            · refine dn_iload (pc := 111) 1 dX13_findAnswer_111 rfl ?_
              refine dn_leaf ?_
              exact hR50 s50 _ _ _ rfl dX13_findAnswer_113
            · refine dn_iinc (pc := 114) (s50 + 1) 1 dX13_findAnswer_114 rfl rfl (Nat.le_of_ble_eq_true rfl) (dnKp_nb 3 rfl rfl rfl (dnKp_of (lv2 := [(0, dnV b r0)]) [2] rfl rfl)) ?_
              refine dn_goto (pc := 117) 50 dX13_findAnswer_117 rfl ?_
              refine dn_leaf ?_
              exact dn_lv [2, 1, 0] rfl (hK50 (s50 + 1))
        · dsimp only [Sum.elim_inl]
          refine dn_bipush (pc := 120) (v := -9) dX13_findAnswer_120 rfl ?_
          exact dn_ret (Nat.le_of_ble_eq_true rfl) (Nat.le_of_ble_eq_true rfl) rfl dX13_findAnswer_122
      · refine dn_iload (pc := 29) 0 dX13_findAnswer_29 rfl ?_
        exact dn_ret (Nat.le_of_ble_eq_true rfl) (Nat.le_of_ble_eq_true rfl) rfl dX13_findAnswer_31
    · refine dn_iconst (pc := 14) (v := -1) dX13_findAnswer_14 rfl ?_
      exact dn_ret (Nat.le_of_ble_eq_true rfl) (Nat.le_of_ble_eq_true rfl) rfl dX13_findAnswer_15
  · refine dn_iconst (pc := 14) (v := -1) dX13_findAnswer_14 rfl ?_
    exact dn_ret (Nat.le_of_ble_eq_true rfl) (Nat.le_of_ble_eq_true rfl) rfl dX13_findAnswer_15
abbrev rmX13_find : Room := { frames := 4, cells := 0, slots := 0, locals := 100 }
def fX13_find (r0 : Option Nat) (p1 : Int32) (p2 : Int32) (p3 : Int32) (p4 : Int64) : dnM Int32 :=
  dnB (dnCv r0 11 (fX13_findAnswer r0 p1 p2 p3 p4)) fun v1 =>
  dnB (dnCv r0 11 (fX13_said r0 v1)) fun v2 =>
  dnP v2
abbrev jX13_find (w : dnWd) (x : dnX) (b : Nat) := dnD w x b (fun _ => True) cX13_find RX13 6 rmX13_find "find" eI
set_option maxHeartbeats 4000000 in
set_option maxRecDepth 100000 in
theorem mX13_find (w : dnWd) (x : dnX) (b : Nat) (r0 : Option Nat) (p1 : Int32) (p2 : Int32) (p3 : Int32) (p4 : Int64) : dnMt w x b yX13_find cX13_find 6 (some .int) rmX13_find eI [dnV b r0, .int p1, .int p2, .int p3, .long p4] (fX13_find r0 p1 p2 p3 p4) := by
  have hlv : lv_args 0 [dnV b r0, .int p1, .int p2, .int p3, .long p4] = [(0, dnV b r0), (1, .int p1), (2, .int p2), (3, .int p3), (4, .long p4)] := by cases r0 <;> rfl
  refine dn_mt (by decide +kernel) roI (by cases r0 <;> exact (Nat.le_of_ble_eq_true rfl)) ?_
  rw [hlv]
  refine dn_top ?_
  show jX13_find w x b 0 0 0 _ [] (dnB _ dnP)
  unfold fX13_find
  refine dn_aload_n (pc := 0) r0 0 dX13_find_0 rfl ?_
  refine dn_aload_n (pc := 1) r0 0 dX13_find_1 rfl ?_
  refine dn_iload_n (pc := 2) 1 dX13_find_2 rfl ?_
  refine dn_iload_n (pc := 3) 2 dX13_find_3 rfl ?_
  refine dn_iload_n (pc := 4) 3 dX13_find_4 rfl ?_
  refine dn_lload (pc := 5) 4 dX13_find_5 rfl ?_
  refine dn_callV0I (pc := 7) [.int p1, .int p2, .int p3, .long p4] r0 kRX13_267 (mX13_findAnswer w x b r0 p1 p2 p3 p4) rfl rfl (Nat.le_of_ble_eq_true rfl) ⟨(Nat.le_of_ble_eq_true rfl), (Nat.le_of_ble_eq_true rfl)⟩ ⟨rfl, rfl, (Nat.le_of_ble_eq_true rfl), (Nat.le_of_ble_eq_true rfl)⟩ dX13_find_7 (fun v1 => ?_)
  refine dn_callV0I (pc := 10) [.int v1] r0 kRX13_137 (mX13_said w x b r0 v1) rfl rfl (Nat.le_of_ble_eq_true rfl) ⟨(Nat.le_of_ble_eq_true rfl), (Nat.le_of_ble_eq_true rfl)⟩ ⟨rfl, rfl, (Nat.le_of_ble_eq_true rfl), (Nat.le_of_ble_eq_true rfl)⟩ dX13_find_10 (fun v2 => ?_)
  exact dn_ret (Nat.le_of_ble_eq_true rfl) (Nat.le_of_ble_eq_true rfl) rfl dX13_find_13
abbrev rmX13_first : Room := { frames := 0, cells := 0, slots := 0, locals := 0 }
def fX13_first (r0 : Option Nat) : dnM Int32 :=
  dnB (dnGI r0 11 2) fun v1 =>
  dnP v1
abbrev jX13_first (w : dnWd) (x : dnX) (b : Nat) := dnD w x b (fun _ => True) cX13_first RX13 1 rmX13_first "first" eI
set_option maxHeartbeats 4000000 in
set_option maxRecDepth 100000 in
theorem mX13_first (w : dnWd) (x : dnX) (b : Nat) (r0 : Option Nat) : dnMt w x b yX13_first cX13_first 1 (some .int) rmX13_first eI [dnV b r0] (fX13_first r0) := by
  have hlv : lv_args 0 [dnV b r0] = [(0, dnV b r0)] := by cases r0 <;> rfl
  refine dn_mt (by decide +kernel) roI (by cases r0 <;> exact (Nat.le_of_ble_eq_true rfl)) ?_
  rw [hlv]
  refine dn_top ?_
  show jX13_first w x b 0 0 0 _ [] (dnB _ dnP)
  unfold fX13_first
  refine dn_aload_n (pc := 0) r0 0 dX13_first_0 rfl ?_
  refine dn_getI (pc := 1) r0 lRX13_13 dX13_first_1 (fun v1 => ?_)
  exact dn_ret (Nat.le_of_ble_eq_true rfl) (Nat.le_of_ble_eq_true rfl) rfl dX13_first_4
abbrev rmX13_firstUnlike : Room := { frames := 3, cells := 0, slots := 0, locals := 67 }
def fX13_firstUnlike_j38 (l0 : Option Nat) (l1 : Int32) (l2 : Int32) (l3 : Int32) : dnM ((Int32) ⊕ ((Unit) ⊕ Int32)) :=
  dnP (.inl (l3 + 1))
def fX13_firstUnlike_b2 (c0 : Option Nat) (c1 : Int32) (c2 : Int32) (s2 : Int32) : dnM ((Int32) ⊕ ((Unit) ⊕ Int32)) :=
  dnB (dnGR c0 11 4) fun v1 =>
  dnB (dnAI v1 100 c1) fun v2 =>
  if v2 ≤ s2 then
  (dnP (.inr (.inl ())))
  else
  (dnB (dnCv c0 11 (fX13_hasCell c0 c1 s2 0)) fun v3 =>
  if v3 = true then
  (dnB (dnCv c0 11 (fX13_held c0 c1 s2)) fun v4 =>
  dnB (dnCv c0 11 (fX13_isReadable c0 v4 c2)) fun v5 =>
  if v5 = true then
  (fX13_firstUnlike_j38 c0 c1 c2 s2)
  else
  (dnP (.inr (.inr s2))))
  else
  (fX13_firstUnlike_j38 c0 c1 c2 s2))
def fX13_firstUnlike (r0 : Option Nat) (p1 : Int32) (p2 : Int32) : dnM Int32 :=
  dnB (dnIt 1000 (fX13_firstUnlike_b2 r0 p1 p2) 0) fun q_ => q_.elim (fun q2 => dnP (-9)) (fun v_ => dnP v_)
abbrev jX13_firstUnlike (w : dnWd) (x : dnX) (b : Nat) := dnD w x b (fun _ => True) cX13_firstUnlike RX13 4 rmX13_firstUnlike "firstUnlike" eI
set_option maxHeartbeats 4000000 in
set_option maxRecDepth 100000 in
theorem mX13_firstUnlike (w : dnWd) (x : dnX) (b : Nat) (r0 : Option Nat) (p1 : Int32) (p2 : Int32) : dnMt w x b yX13_firstUnlike cX13_firstUnlike 4 (some .int) rmX13_firstUnlike eI [dnV b r0, .int p1, .int p2] (fX13_firstUnlike r0 p1 p2) := by
  have hlv : lv_args 0 [dnV b r0, .int p1, .int p2] = [(0, dnV b r0), (1, .int p1), (2, .int p2)] := by cases r0 <;> rfl
  refine dn_mt (by decide +kernel) roI (by cases r0 <;> exact (Nat.le_of_ble_eq_true rfl)) ?_
  rw [hlv]
  refine dn_top ?_
  show jX13_firstUnlike w x b 0 0 0 _ [] (dnB _ dnP)
  unfold fX13_firstUnlike
  refine dn_iconst (pc := 0) (v := 0) dX13_firstUnlike_0 rfl ?_
  refine dn_istore_n (pc := 1) dX13_firstUnlike_1 (Nat.le_of_ble_eq_true rfl) (dnKp_nb 2 rfl rfl rfl (dnKp_of (lv2 := [(0, dnV b r0), (1, .int p1)]) [0, 1] rfl rfl)) ?_
  refine dn_assoc ?_
  refine dn_lv [2, 3, 1, 0] (lv2 := (fun s => [(0, dnV b r0), (1, .int p1), (2, .int p2), (3, .int s)]) 0) rfl ?_
  refine dn_loopR (pc := 2) (body := fX13_firstUnlike_b2 r0 p1 p2) 44 (fun s => [(0, dnV b r0), (1, .int p1), (2, .int p2), (3, .int s)]) (fun q => []) (fun s2 K2 E2 hK2 hE2 hR2 => ?_) (dn_rt (Nat.le_of_ble_eq_true rfl) (Nat.le_of_ble_eq_true rfl) (fun _ => rfl)) (fun q2 => ?_) 1000 0
  · unfold fX13_firstUnlike_b2
    have hj38 : ∀ (l3 : Int32), jX13_firstUnlike w x b 38 0 0 [(0, dnV b r0), (1, .int p1), (2, .int p2), (3, .int l3)] [] (dnB (fX13_firstUnlike_j38 r0 p1 p2 l3) (dnKo K2 E2)) := by
      intro l3
      unfold fX13_firstUnlike_j38
      refine dn_iinc (pc := 38) (l3 + 1) 3 dX13_firstUnlike_38 rfl rfl (Nat.le_of_ble_eq_true rfl) (dnKp_nb 2 rfl rfl rfl (dnKp_of (lv2 := [(0, dnV b r0), (1, .int p1)]) [0, 1] rfl rfl)) ?_
      refine dn_goto (pc := 41) 2 dX13_firstUnlike_41 rfl ?_
      refine dn_leaf ?_
      exact dn_lv [2, 3, 1, 0] rfl (hK2 (l3 + 1))
    refine dn_iload_n (pc := 2) 3 dX13_firstUnlike_2 rfl ?_
    refine dn_aload_n (pc := 3) r0 0 dX13_firstUnlike_3 rfl ?_
    refine dn_getR (pc := 4) r0 lRX13_17 dX13_firstUnlike_4 (fun v1 => ?_)
    refine dn_iload_n (pc := 7) 1 dX13_firstUnlike_7 rfl ?_
    refine dn_iald (pc := 8) v1 dX13_firstUnlike_8 (fun v2 => ?_)
    refine dn_icmp_ge (pc := 9) 44 dX13_firstUnlike_9 rfl (fun _ => ?_) (fun _ => ?_)
    · refine dn_leaf ?_
      exact dn_lv [] rfl (hE2 ())
    · refine dn_aload_n (pc := 12) r0 0 dX13_firstUnlike_12 rfl ?_
      refine dn_iload_n (pc := 13) 1 dX13_firstUnlike_13 rfl ?_
      refine dn_iload_n (pc := 14) 3 dX13_firstUnlike_14 rfl ?_
      refine dn_iconst (pc := 15) (v := 0) dX13_firstUnlike_15 rfl ?_
      refine dn_callV0Z (pc := 16) [.int p1, .int s2, .int 0] r0 kRX13_348 (mX13_hasCell w x b r0 p1 s2 0) rfl rfl (Nat.le_of_ble_eq_true rfl) ⟨(Nat.le_of_ble_eq_true rfl), (Nat.le_of_ble_eq_true rfl)⟩ ⟨rfl, rfl, (Nat.le_of_ble_eq_true rfl), (Nat.le_of_ble_eq_true rfl)⟩ dX13_firstUnlike_16 (fun v3 => ?_)
      refine dn_ifz_eq (pc := 19) 38 dX13_firstUnlike_19 rfl (fun _ => ?_) (fun _ => ?_)
      · refine dn_aload_n (pc := 22) r0 0 dX13_firstUnlike_22 rfl ?_
        refine dn_aload_n (pc := 23) r0 0 dX13_firstUnlike_23 rfl ?_
        refine dn_iload_n (pc := 24) 1 dX13_firstUnlike_24 rfl ?_
        refine dn_iload_n (pc := 25) 3 dX13_firstUnlike_25 rfl ?_
        refine dn_callV0I (pc := 26) [.int p1, .int s2] r0 kRX13_128 (mX13_held w x b r0 p1 s2) rfl rfl (Nat.le_of_ble_eq_true rfl) ⟨(Nat.le_of_ble_eq_true rfl), (Nat.le_of_ble_eq_true rfl)⟩ ⟨rfl, rfl, (Nat.le_of_ble_eq_true rfl), (Nat.le_of_ble_eq_true rfl)⟩ dX13_firstUnlike_26 (fun v4 => ?_)
        refine dn_iload_n (pc := 29) 2 dX13_firstUnlike_29 rfl ?_
        refine dn_callV0Z (pc := 30) [.int v4, .int p2] r0 kRX13_233 (mX13_isReadable w x b r0 v4 p2) rfl rfl (Nat.le_of_ble_eq_true rfl) ⟨(Nat.le_of_ble_eq_true rfl), (Nat.le_of_ble_eq_true rfl)⟩ ⟨rfl, rfl, (Nat.le_of_ble_eq_true rfl), (Nat.le_of_ble_eq_true rfl)⟩ dX13_firstUnlike_30 (fun v5 => ?_)
        refine dn_ifz_ne (pc := 33) 38 dX13_firstUnlike_33 rfl (fun _ => ?_) (fun _ => ?_)
        · exact dn_lv [0, 1, 2, 3] rfl (hj38 s2)
        · refine dn_iload_n (pc := 36) 3 dX13_firstUnlike_36 rfl ?_
          refine dn_leaf ?_
          exact hR2 s2 _ _ _ rfl dX13_firstUnlike_37
      · exact dn_lv [0, 1, 2, 3] rfl (hj38 s2)
  · dsimp only [Sum.elim_inl]
    refine dn_bipush (pc := 44) (v := -9) dX13_firstUnlike_44 rfl ?_
    exact dn_ret (Nat.le_of_ble_eq_true rfl) (Nat.le_of_ble_eq_true rfl) rfl dX13_firstUnlike_46
abbrev rmX13_isTaken : Room := { frames := 2, cells := 0, slots := 0, locals := 43 }
def fX13_isTaken (p0 : Int32) (p1 : Int32) : dnM Bool :=
  if 8 ≤ p0 then
  (if 16 ≤ p0 then
  (dnB (fX13_takes p1 (p0 - 16)) fun v1 =>
  dnP v1)
  else
  (dnB (fX13_isPlain p1) fun v2 =>
  if v2 = true then
  (dnB (fX13_takes p1 (p0 - 8)) fun v3 =>
  if v3 = true then
  (dnP true)
  else
  (dnP false))
  else
  (dnP false)))
  else
  (dnB (fX13_isPlain p1) fun v4 =>
  if v4 = true then
  (dnB (fX13_takes p0 p1) fun v5 =>
  if v5 = true then
  (dnP true)
  else
  (dnP false))
  else
  (dnP false))
abbrev jX13_isTaken (w : dnWd) (x : dnX) (b : Nat) := dnD w x b (fun _ => True) cX13_isTaken RX13 2 rmX13_isTaken "isTaken" eZ
set_option maxHeartbeats 4000000 in
set_option maxRecDepth 100000 in
theorem mX13_isTaken (w : dnWd) (x : dnX) (b : Nat) (p0 : Int32) (p1 : Int32) : dnMt w x b yX13_isTaken cX13_isTaken 2 (some .boolean) rmX13_isTaken eZ [.int p0, .int p1] (fX13_isTaken p0 p1) := by
  have hlv : lv_args 0 [.int p0, .int p1] = [(0, .int p0), (1, .int p1)] := by rfl
  refine dn_mt (by decide +kernel) roZ (by exact (Nat.le_of_ble_eq_true rfl)) ?_
  rw [hlv]
  refine dn_top ?_
  show jX13_isTaken w x b 0 0 0 _ [] (dnB _ dnP)
  unfold fX13_isTaken
  refine dn_iload_n (pc := 0) 0 dX13_isTaken_0 rfl ?_
  refine dn_bipush (pc := 1) (v := 8) dX13_isTaken_1 rfl ?_
  refine dn_icmp_ge (pc := 3) 27 dX13_isTaken_3 rfl (fun _ => ?_) (fun _ => ?_)
  · refine dn_iload_n (pc := 27) 0 dX13_isTaken_27 rfl ?_
    refine dn_bipush (pc := 28) (v := 16) dX13_isTaken_28 rfl ?_
    refine dn_icmp_ge (pc := 30) 57 dX13_isTaken_30 rfl (fun _ => ?_) (fun _ => ?_)
    · refine dn_iload_n (pc := 57) 1 dX13_isTaken_57 rfl ?_
      refine dn_iload_n (pc := 58) 0 dX13_isTaken_58 rfl ?_
      refine dn_bipush (pc := 59) (v := 16) dX13_isTaken_59 rfl ?_
      refine dn_isub (pc := 61) dX13_isTaken_61 ?_
      refine dn_callS0Z (pc := 62) [.int p1, .int (p0 - 16)]  kRX13_205 (mX13_takes w x b p1 (p0 - 16)) rfl rfl (Nat.le_of_ble_eq_true rfl) ⟨(Nat.le_of_ble_eq_true rfl), (Nat.le_of_ble_eq_true rfl)⟩ ⟨rfl, rfl, (Nat.le_of_ble_eq_true rfl), (Nat.le_of_ble_eq_true rfl)⟩ dX13_isTaken_62 (fun v1 => ?_)
      exact dn_ret (Nat.le_of_ble_eq_true rfl) (Nat.le_of_ble_eq_true rfl) rfl dX13_isTaken_65
    · refine dn_iload_n (pc := 33) 1 dX13_isTaken_33 rfl ?_
      refine dn_callS0Z (pc := 34) [.int p1]  kRX13_209 (mX13_isPlain w x b p1) rfl rfl (Nat.le_of_ble_eq_true rfl) ⟨(Nat.le_of_ble_eq_true rfl), (Nat.le_of_ble_eq_true rfl)⟩ ⟨rfl, rfl, (Nat.le_of_ble_eq_true rfl), (Nat.le_of_ble_eq_true rfl)⟩ dX13_isTaken_34 (fun v2 => ?_)
      refine dn_ifz_eq (pc := 37) 55 dX13_isTaken_37 rfl (fun _ => ?_) (fun _ => ?_)
      · refine dn_iload_n (pc := 40) 1 dX13_isTaken_40 rfl ?_
        refine dn_iload_n (pc := 41) 0 dX13_isTaken_41 rfl ?_
        refine dn_bipush (pc := 42) (v := 8) dX13_isTaken_42 rfl ?_
        refine dn_isub (pc := 44) dX13_isTaken_44 ?_
        refine dn_callS0Z (pc := 45) [.int p1, .int (p0 - 8)]  kRX13_205 (mX13_takes w x b p1 (p0 - 8)) rfl rfl (Nat.le_of_ble_eq_true rfl) ⟨(Nat.le_of_ble_eq_true rfl), (Nat.le_of_ble_eq_true rfl)⟩ ⟨rfl, rfl, (Nat.le_of_ble_eq_true rfl), (Nat.le_of_ble_eq_true rfl)⟩ dX13_isTaken_45 (fun v3 => ?_)
        refine dn_ifz_eq (pc := 48) 55 dX13_isTaken_48 rfl (fun _ => ?_) (fun _ => ?_)
        · refine dn_iconst (pc := 51) (v := 1) dX13_isTaken_51 rfl ?_
          refine dn_goto (pc := 52) 56 dX13_isTaken_52 rfl ?_
          exact dn_ret (Nat.le_of_ble_eq_true rfl) (Nat.le_of_ble_eq_true rfl) rfl dX13_isTaken_56
        · refine dn_iconst (pc := 55) (v := 0) dX13_isTaken_55 rfl ?_
          exact dn_ret (Nat.le_of_ble_eq_true rfl) (Nat.le_of_ble_eq_true rfl) rfl dX13_isTaken_56
      · refine dn_iconst (pc := 55) (v := 0) dX13_isTaken_55 rfl ?_
        exact dn_ret (Nat.le_of_ble_eq_true rfl) (Nat.le_of_ble_eq_true rfl) rfl dX13_isTaken_56
  · refine dn_iload_n (pc := 6) 1 dX13_isTaken_6 rfl ?_
    refine dn_callS0Z (pc := 7) [.int p1]  kRX13_209 (mX13_isPlain w x b p1) rfl rfl (Nat.le_of_ble_eq_true rfl) ⟨(Nat.le_of_ble_eq_true rfl), (Nat.le_of_ble_eq_true rfl)⟩ ⟨rfl, rfl, (Nat.le_of_ble_eq_true rfl), (Nat.le_of_ble_eq_true rfl)⟩ dX13_isTaken_7 (fun v4 => ?_)
    refine dn_ifz_eq (pc := 10) 25 dX13_isTaken_10 rfl (fun _ => ?_) (fun _ => ?_)
    · refine dn_iload_n (pc := 13) 0 dX13_isTaken_13 rfl ?_
      refine dn_iload_n (pc := 14) 1 dX13_isTaken_14 rfl ?_
      refine dn_callS0Z (pc := 15) [.int p0, .int p1]  kRX13_205 (mX13_takes w x b p0 p1) rfl rfl (Nat.le_of_ble_eq_true rfl) ⟨(Nat.le_of_ble_eq_true rfl), (Nat.le_of_ble_eq_true rfl)⟩ ⟨rfl, rfl, (Nat.le_of_ble_eq_true rfl), (Nat.le_of_ble_eq_true rfl)⟩ dX13_isTaken_15 (fun v5 => ?_)
      refine dn_ifz_eq (pc := 18) 25 dX13_isTaken_18 rfl (fun _ => ?_) (fun _ => ?_)
      · refine dn_iconst (pc := 21) (v := 1) dX13_isTaken_21 rfl ?_
        refine dn_goto (pc := 22) 26 dX13_isTaken_22 rfl ?_
        exact dn_ret (Nat.le_of_ble_eq_true rfl) (Nat.le_of_ble_eq_true rfl) rfl dX13_isTaken_26
      · refine dn_iconst (pc := 25) (v := 0) dX13_isTaken_25 rfl ?_
        exact dn_ret (Nat.le_of_ble_eq_true rfl) (Nat.le_of_ble_eq_true rfl) rfl dX13_isTaken_26
    · refine dn_iconst (pc := 25) (v := 0) dX13_isTaken_25 rfl ?_
      exact dn_ret (Nat.le_of_ble_eq_true rfl) (Nat.le_of_ble_eq_true rfl) rfl dX13_isTaken_26
abbrev rmX13_fits : Room := { frames := 3, cells := 0, slots := 0, locals := 64 }
def fX13_fits_j33 (l0 : Option Nat) : dnM Int32 :=
  dnB (dnCv l0 11 (fX13_said l0 (-1))) fun v1 =>
  dnP v1
def fX13_fits (r0 : Option Nat) (p1 : Int32) (p2 : Int32) : dnM Int32 :=
  dnB (fX13_in p1 0 27) fun v2 =>
  if v2 = true then
  (dnB (fX13_isKind p2) fun v3 =>
  if v3 = true then
  (dnB (fX13_isTaken p1 p2) fun v4 =>
  if v4 = true then
  (dnP 1)
  else
  (dnP 0))
  else
  (fX13_fits_j33 r0))
  else
  (fX13_fits_j33 r0)
abbrev jX13_fits (w : dnWd) (x : dnX) (b : Nat) := dnD w x b (fun _ => True) cX13_fits RX13 3 rmX13_fits "fits" eI
set_option maxHeartbeats 4000000 in
set_option maxRecDepth 100000 in
theorem mX13_fits (w : dnWd) (x : dnX) (b : Nat) (r0 : Option Nat) (p1 : Int32) (p2 : Int32) : dnMt w x b yX13_fits cX13_fits 3 (some .int) rmX13_fits eI [dnV b r0, .int p1, .int p2] (fX13_fits r0 p1 p2) := by
  have hlv : lv_args 0 [dnV b r0, .int p1, .int p2] = [(0, dnV b r0), (1, .int p1), (2, .int p2)] := by cases r0 <;> rfl
  refine dn_mt (by decide +kernel) roI (by cases r0 <;> exact (Nat.le_of_ble_eq_true rfl)) ?_
  rw [hlv]
  refine dn_top ?_
  show jX13_fits w x b 0 0 0 _ [] (dnB _ dnP)
  unfold fX13_fits
  have hj33 : ∀ (l0 : Option Nat), jX13_fits w x b 33 0 0 [(0, dnV b l0)] [] (dnB (fX13_fits_j33 l0) dnP) := by
    intro l0
    unfold fX13_fits_j33
    refine dn_aload_n (pc := 33) l0 0 dX13_fits_33 rfl ?_
    refine dn_iconst (pc := 34) (v := -1) dX13_fits_34 rfl ?_
    refine dn_callV0I (pc := 35) [.int (-1)] l0 kRX13_137 (mX13_said w x b l0 (-1)) rfl rfl (Nat.le_of_ble_eq_true rfl) ⟨(Nat.le_of_ble_eq_true rfl), (Nat.le_of_ble_eq_true rfl)⟩ ⟨rfl, rfl, (Nat.le_of_ble_eq_true rfl), (Nat.le_of_ble_eq_true rfl)⟩ dX13_fits_35 (fun v1 => ?_)
    exact dn_ret (Nat.le_of_ble_eq_true rfl) (Nat.le_of_ble_eq_true rfl) rfl dX13_fits_38
  refine dn_iload_n (pc := 0) 1 dX13_fits_0 rfl ?_
  refine dn_iconst (pc := 1) (v := 0) dX13_fits_1 rfl ?_
  refine dn_bipush (pc := 2) (v := 27) dX13_fits_2 rfl ?_
  refine dn_callS0Z (pc := 4) [.int p1, .int 0, .int 27]  kRX13_109 (mX13_in w x b p1 0 27) rfl rfl (Nat.le_of_ble_eq_true rfl) ⟨(Nat.le_of_ble_eq_true rfl), (Nat.le_of_ble_eq_true rfl)⟩ ⟨rfl, rfl, (Nat.le_of_ble_eq_true rfl), (Nat.le_of_ble_eq_true rfl)⟩ dX13_fits_4 (fun v2 => ?_)
  refine dn_ifz_eq (pc := 7) 33 dX13_fits_7 rfl (fun _ => ?_) (fun _ => ?_)
  · refine dn_iload_n (pc := 10) 2 dX13_fits_10 rfl ?_
    refine dn_callS0Z (pc := 11) [.int p2]  kRX13_152 (mX13_isKind w x b p2) rfl rfl (Nat.le_of_ble_eq_true rfl) ⟨(Nat.le_of_ble_eq_true rfl), (Nat.le_of_ble_eq_true rfl)⟩ ⟨rfl, rfl, (Nat.le_of_ble_eq_true rfl), (Nat.le_of_ble_eq_true rfl)⟩ dX13_fits_11 (fun v3 => ?_)
    refine dn_ifz_eq (pc := 14) 33 dX13_fits_14 rfl (fun _ => ?_) (fun _ => ?_)
    · refine dn_iload_n (pc := 17) 1 dX13_fits_17 rfl ?_
      refine dn_iload_n (pc := 18) 2 dX13_fits_18 rfl ?_
      refine dn_callS0Z (pc := 19) [.int p1, .int p2]  kRX13_528 (mX13_isTaken w x b p1 p2) rfl rfl (Nat.le_of_ble_eq_true rfl) ⟨(Nat.le_of_ble_eq_true rfl), (Nat.le_of_ble_eq_true rfl)⟩ ⟨rfl, rfl, (Nat.le_of_ble_eq_true rfl), (Nat.le_of_ble_eq_true rfl)⟩ dX13_fits_19 (fun v4 => ?_)
      refine dn_ifz_eq (pc := 22) 29 dX13_fits_22 rfl (fun _ => ?_) (fun _ => ?_)
      · refine dn_iconst (pc := 25) (v := 1) dX13_fits_25 rfl ?_
        refine dn_goto (pc := 26) 38 dX13_fits_26 rfl ?_
        exact dn_ret (Nat.le_of_ble_eq_true rfl) (Nat.le_of_ble_eq_true rfl) rfl dX13_fits_38
      · refine dn_iconst (pc := 29) (v := 0) dX13_fits_29 rfl ?_
        refine dn_goto (pc := 30) 38 dX13_fits_30 rfl ?_
        exact dn_ret (Nat.le_of_ble_eq_true rfl) (Nat.le_of_ble_eq_true rfl) rfl dX13_fits_38
    · exact dn_lv [0] rfl (hj33 r0)
  · exact dn_lv [0] rfl (hj33 r0)
abbrev rmX13_flat : Room := { frames := 5, cells := 0, slots := 0, locals := 119 }
def fX13_flat (r0 : Option Nat) (p1 : Int32) (p2 : Int32) (p3 : Int32) : dnM Int32 :=
  dnB (dnCv r0 11 (fX13_flatDeed r0 p1 p2 p3)) fun v1 =>
  dnB (dnCv r0 11 (fX13_said r0 v1)) fun v2 =>
  dnP v2
abbrev jX13_flat (w : dnWd) (x : dnX) (b : Nat) := dnD w x b (fun _ => True) cX13_flat RX13 4 rmX13_flat "flat" eI
set_option maxHeartbeats 4000000 in
set_option maxRecDepth 100000 in
theorem mX13_flat (w : dnWd) (x : dnX) (b : Nat) (r0 : Option Nat) (p1 : Int32) (p2 : Int32) (p3 : Int32) : dnMt w x b yX13_flat cX13_flat 4 (some .int) rmX13_flat eI [dnV b r0, .int p1, .int p2, .int p3] (fX13_flat r0 p1 p2 p3) := by
  have hlv : lv_args 0 [dnV b r0, .int p1, .int p2, .int p3] = [(0, dnV b r0), (1, .int p1), (2, .int p2), (3, .int p3)] := by cases r0 <;> rfl
  refine dn_mt (by decide +kernel) roI (by cases r0 <;> exact (Nat.le_of_ble_eq_true rfl)) ?_
  rw [hlv]
  refine dn_top ?_
  show jX13_flat w x b 0 0 0 _ [] (dnB _ dnP)
  unfold fX13_flat
  refine dn_aload_n (pc := 0) r0 0 dX13_flat_0 rfl ?_
  refine dn_aload_n (pc := 1) r0 0 dX13_flat_1 rfl ?_
  refine dn_iload_n (pc := 2) 1 dX13_flat_2 rfl ?_
  refine dn_iload_n (pc := 3) 2 dX13_flat_3 rfl ?_
  refine dn_iload_n (pc := 4) 3 dX13_flat_4 rfl ?_
  refine dn_callV0I (pc := 5) [.int p1, .int p2, .int p3] r0 kRX13_339 (mX13_flatDeed w x b r0 p1 p2 p3) rfl rfl (Nat.le_of_ble_eq_true rfl) ⟨(Nat.le_of_ble_eq_true rfl), (Nat.le_of_ble_eq_true rfl)⟩ ⟨rfl, rfl, (Nat.le_of_ble_eq_true rfl), (Nat.le_of_ble_eq_true rfl)⟩ dX13_flat_5 (fun v1 => ?_)
  refine dn_callV0I (pc := 8) [.int v1] r0 kRX13_137 (mX13_said w x b r0 v1) rfl rfl (Nat.le_of_ble_eq_true rfl) ⟨(Nat.le_of_ble_eq_true rfl), (Nat.le_of_ble_eq_true rfl)⟩ ⟨rfl, rfl, (Nat.le_of_ble_eq_true rfl), (Nat.le_of_ble_eq_true rfl)⟩ dX13_flat_8 (fun v2 => ?_)
  exact dn_ret (Nat.le_of_ble_eq_true rfl) (Nat.le_of_ble_eq_true rfl) rfl dX13_flat_11
abbrev rmX13_flip : Room := { frames := 4, cells := 0, slots := 0, locals := 93 }
def fX13_flip (r0 : Option Nat) (p1 : Int32) (p2 : Int32) : dnM Int32 :=
  dnB (dnCv r0 11 (fX13_flipDeed r0 p1 p2)) fun v1 =>
  dnB (dnCv r0 11 (fX13_said r0 v1)) fun v2 =>
  dnP v2
abbrev jX13_flip (w : dnWd) (x : dnX) (b : Nat) := dnD w x b (fun _ => True) cX13_flip RX13 3 rmX13_flip "flip" eI
set_option maxHeartbeats 4000000 in
set_option maxRecDepth 100000 in
theorem mX13_flip (w : dnWd) (x : dnX) (b : Nat) (r0 : Option Nat) (p1 : Int32) (p2 : Int32) : dnMt w x b yX13_flip cX13_flip 3 (some .int) rmX13_flip eI [dnV b r0, .int p1, .int p2] (fX13_flip r0 p1 p2) := by
  have hlv : lv_args 0 [dnV b r0, .int p1, .int p2] = [(0, dnV b r0), (1, .int p1), (2, .int p2)] := by cases r0 <;> rfl
  refine dn_mt (by decide +kernel) roI (by cases r0 <;> exact (Nat.le_of_ble_eq_true rfl)) ?_
  rw [hlv]
  refine dn_top ?_
  show jX13_flip w x b 0 0 0 _ [] (dnB _ dnP)
  unfold fX13_flip
  refine dn_aload_n (pc := 0) r0 0 dX13_flip_0 rfl ?_
  refine dn_aload_n (pc := 1) r0 0 dX13_flip_1 rfl ?_
  refine dn_iload_n (pc := 2) 1 dX13_flip_2 rfl ?_
  refine dn_iload_n (pc := 3) 2 dX13_flip_3 rfl ?_
  refine dn_callV0I (pc := 4) [.int p1, .int p2] r0 kRX13_306 (mX13_flipDeed w x b r0 p1 p2) rfl rfl (Nat.le_of_ble_eq_true rfl) ⟨(Nat.le_of_ble_eq_true rfl), (Nat.le_of_ble_eq_true rfl)⟩ ⟨rfl, rfl, (Nat.le_of_ble_eq_true rfl), (Nat.le_of_ble_eq_true rfl)⟩ dX13_flip_4 (fun v1 => ?_)
  refine dn_callV0I (pc := 7) [.int v1] r0 kRX13_137 (mX13_said w x b r0 v1) rfl rfl (Nat.le_of_ble_eq_true rfl) ⟨(Nat.le_of_ble_eq_true rfl), (Nat.le_of_ble_eq_true rfl)⟩ ⟨rfl, rfl, (Nat.le_of_ble_eq_true rfl), (Nat.le_of_ble_eq_true rfl)⟩ dX13_flip_7 (fun v2 => ?_)
  exact dn_ret (Nat.le_of_ble_eq_true rfl) (Nat.le_of_ble_eq_true rfl) rfl dX13_flip_10
abbrev rmX13_foldsNumber : Room := { frames := 0, cells := 0, slots := 0, locals := 0 }
def fX13_foldsNumber_j112 (l0 : Option Nat) (l3 : Int64) : dnM Unit :=
  dnB (dnPL l0 11 20 l3) fun _ =>
  dnP ()
def fX13_foldsNumber_j55 (s0 : Option Nat) (s1 : Int64) : dnM Unit :=
  dnB (dnPL s0 11 20 s1) fun _ =>
  dnP ()
def fX13_foldsNumber_j21 (s0 : Option Nat) (s1 : Int64) (s2 : Int64) : dnM Unit :=
  dnB (dnPL s0 11 20 (s1 + s2)) fun _ =>
  dnP ()
def fX13_foldsNumber (r0 : Option Nat) (p1 : Int32) (p2 : Int32) (p3 : Int64) : dnM Unit :=
  if ¬ p1 = 4 then
  (if ¬ p1 = 0 then
  (if ¬ p1 = 3 then
  (dnB (dnGI r0 11 19) fun v1 =>
  if v1 = 0 then
  (fX13_foldsNumber_j112 r0 p3)
  else
  (if ¬ p1 = 1 then
  (dnB (dnGL r0 11 20) fun v2 =>
  if (lg_cmp p3 v2) ≤ 0 then
  (dnP ())
  else
  (fX13_foldsNumber_j112 r0 p3))
  else
  (dnB (dnGL r0 11 20) fun v3 =>
  if 0 ≤ (lg_cmp p3 v3) then
  (dnP ())
  else
  (fX13_foldsNumber_j112 r0 p3))))
  else
  (dnB (dnGL r0 11 20) fun v4 =>
  dnB (dnPL r0 11 20 (v4 ^^^ p3)) fun _ =>
  dnP ()))
  else
  (if ¬ p2 = 4 then
  (dnB (dnGL r0 11 20) fun v5 =>
  fX13_foldsNumber_j55 r0 (v5 + p3))
  else
  (dnB (dnGL r0 11 20) fun v6 =>
  fX13_foldsNumber_j55 r0 (((((v6 + p3) : Int64).toInt32) : Int32).toInt64))))
  else
  (dnB (dnGL r0 11 20) fun v7 =>
  if (lg_cmp p3 0) = 0 then
  (fX13_foldsNumber_j21 r0 v7 0)
  else
  (fX13_foldsNumber_j21 r0 v7 1))
abbrev jX13_foldsNumber (w : dnWd) (x : dnX) (b : Nat) := dnD w x b (fun _ => True) cX13_foldsNumber RX13 5 rmX13_foldsNumber "foldsNumber" eU
set_option maxHeartbeats 4000000 in
set_option maxRecDepth 100000 in
theorem mX13_foldsNumber (w : dnWd) (x : dnX) (b : Nat) (r0 : Option Nat) (p1 : Int32) (p2 : Int32) (p3 : Int64) : dnMt w x b yX13_foldsNumber cX13_foldsNumber 5 none rmX13_foldsNumber eU [dnV b r0, .int p1, .int p2, .long p3] (fX13_foldsNumber r0 p1 p2 p3) := by
  have hlv : lv_args 0 [dnV b r0, .int p1, .int p2, .long p3] = [(0, dnV b r0), (1, .int p1), (2, .int p2), (3, .long p3)] := by cases r0 <;> rfl
  refine dn_mt (by decide +kernel) roU (by cases r0 <;> exact (Nat.le_of_ble_eq_true rfl)) ?_
  rw [hlv]
  refine dn_top ?_
  show jX13_foldsNumber w x b 0 0 0 _ [] (dnB _ dnP)
  unfold fX13_foldsNumber
  have hj112 : ∀ (l0 : Option Nat) (l3 : Int64), jX13_foldsNumber w x b 112 0 0 [(0, dnV b l0), (3, .long l3)] [] (dnB (fX13_foldsNumber_j112 l0 l3) dnP) := by
    intro l0 l3
    unfold fX13_foldsNumber_j112
    refine dn_aload_n (pc := 112) l0 0 dX13_foldsNumber_112 rfl ?_
    refine dn_lload_n (pc := 113) 1 dX13_foldsNumber_113 rfl ?_
    refine dn_putL (pc := 114) l0 lRX13_370 dX13_foldsNumber_114 ?_
    exact dn_ret (Nat.le_of_ble_eq_true rfl) (Nat.le_of_ble_eq_true rfl) rfl dX13_foldsNumber_117
  have hj55 : ∀ (s0 : Option Nat) (s1 : Int64), jX13_foldsNumber w x b 55 0 0 [] [.long s1, dnV b s0] (dnB (fX13_foldsNumber_j55 s0 s1) dnP) := by
    intro s0 s1
    unfold fX13_foldsNumber_j55
    refine dn_putL (pc := 55) s0 lRX13_370 dX13_foldsNumber_55 ?_
    refine dn_goto (pc := 58) 117 dX13_foldsNumber_58 rfl ?_
    exact dn_ret (Nat.le_of_ble_eq_true rfl) (Nat.le_of_ble_eq_true rfl) rfl dX13_foldsNumber_117
  have hj21 : ∀ (s0 : Option Nat) (s1 : Int64) (s2 : Int64), jX13_foldsNumber w x b 21 0 0 [] [.long s2, .long s1, dnV b s0] (dnB (fX13_foldsNumber_j21 s0 s1 s2) dnP) := by
    intro s0 s1 s2
    unfold fX13_foldsNumber_j21
    refine dn_ladd (pc := 21) dX13_foldsNumber_21 ?_
    refine dn_putL (pc := 22) s0 lRX13_370 dX13_foldsNumber_22 ?_
    refine dn_goto (pc := 25) 117 dX13_foldsNumber_25 rfl ?_
    exact dn_ret (Nat.le_of_ble_eq_true rfl) (Nat.le_of_ble_eq_true rfl) rfl dX13_foldsNumber_117
  refine dn_iload_n (pc := 0) 1 dX13_foldsNumber_0 rfl ?_
  refine dn_iconst (pc := 1) (v := 4) dX13_foldsNumber_1 rfl ?_
  refine dn_icmp_ne (pc := 2) 28 dX13_foldsNumber_2 rfl (fun _ => ?_) (fun _ => ?_)
  · refine dn_iload_n (pc := 28) 1 dX13_foldsNumber_28 rfl ?_
    refine dn_if_ne (pc := 29) 61 dX13_foldsNumber_29 rfl (fun _ => ?_) (fun _ => ?_)
    · refine dn_iload_n (pc := 61) 1 dX13_foldsNumber_61 rfl ?_
      refine dn_iconst (pc := 62) (v := 3) dX13_foldsNumber_62 rfl ?_
      refine dn_icmp_ne (pc := 63) 79 dX13_foldsNumber_63 rfl (fun _ => ?_) (fun _ => ?_)
      · refine dn_aload_n (pc := 79) r0 0 dX13_foldsNumber_79 rfl ?_
        refine dn_getI (pc := 80) r0 lRX13_373 dX13_foldsNumber_80 (fun v1 => ?_)
        refine dn_if_eq (pc := 83) 112 dX13_foldsNumber_83 rfl (fun _ => ?_) (fun _ => ?_)
        · exact dn_lv [0, 3] rfl (hj112 r0 p3)
        · refine dn_iload_n (pc := 86) 1 dX13_foldsNumber_86 rfl ?_
          refine dn_iconst (pc := 87) (v := 1) dX13_foldsNumber_87 rfl ?_
          refine dn_icmp_ne (pc := 88) 103 dX13_foldsNumber_88 rfl (fun _ => ?_) (fun _ => ?_)
          · refine dn_lload_n (pc := 103) 3 dX13_foldsNumber_103 rfl ?_
            refine dn_aload_n (pc := 104) r0 0 dX13_foldsNumber_104 rfl ?_
            refine dn_getL (pc := 105) r0 lRX13_370 dX13_foldsNumber_105 (fun v2 => ?_)
            refine dn_lcmp (pc := 108) dX13_foldsNumber_108 ?_
            refine dn_if_le (pc := 109) 117 dX13_foldsNumber_109 rfl (fun _ => ?_) (fun _ => ?_)
            · exact dn_ret (Nat.le_of_ble_eq_true rfl) (Nat.le_of_ble_eq_true rfl) rfl dX13_foldsNumber_117
            · exact dn_lv [0, 3] rfl (hj112 r0 p3)
          · refine dn_lload_n (pc := 91) 3 dX13_foldsNumber_91 rfl ?_
            refine dn_aload_n (pc := 92) r0 0 dX13_foldsNumber_92 rfl ?_
            refine dn_getL (pc := 93) r0 lRX13_370 dX13_foldsNumber_93 (fun v3 => ?_)
            refine dn_lcmp (pc := 96) dX13_foldsNumber_96 ?_
            refine dn_if_ge (pc := 97) 117 dX13_foldsNumber_97 rfl (fun _ => ?_) (fun _ => ?_)
            · exact dn_ret (Nat.le_of_ble_eq_true rfl) (Nat.le_of_ble_eq_true rfl) rfl dX13_foldsNumber_117
            · refine dn_goto (pc := 100) 112 dX13_foldsNumber_100 rfl ?_
              exact dn_lv [0, 3] rfl (hj112 r0 p3)
      · refine dn_aload_n (pc := 66) r0 0 dX13_foldsNumber_66 rfl ?_
        refine dn_dup (pc := 67) dX13_foldsNumber_67 (dn_cat b _) ?_
        refine dn_getL (pc := 68) r0 lRX13_370 dX13_foldsNumber_68 (fun v4 => ?_)
        refine dn_lload_n (pc := 71) 3 dX13_foldsNumber_71 rfl ?_
        refine dn_lxor (pc := 72) dX13_foldsNumber_72 ?_
        refine dn_putL (pc := 73) r0 lRX13_370 dX13_foldsNumber_73 ?_
        refine dn_goto (pc := 76) 117 dX13_foldsNumber_76 rfl ?_
        exact dn_ret (Nat.le_of_ble_eq_true rfl) (Nat.le_of_ble_eq_true rfl) rfl dX13_foldsNumber_117
    · refine dn_aload_n (pc := 32) r0 0 dX13_foldsNumber_32 rfl ?_
      refine dn_iload_n (pc := 33) 2 dX13_foldsNumber_33 rfl ?_
      refine dn_iconst (pc := 34) (v := 4) dX13_foldsNumber_34 rfl ?_
      refine dn_icmp_ne (pc := 35) 49 dX13_foldsNumber_35 rfl (fun _ => ?_) (fun _ => ?_)
      · refine dn_aload_n (pc := 49) r0 0 dX13_foldsNumber_49 rfl ?_
        refine dn_getL (pc := 50) r0 lRX13_370 dX13_foldsNumber_50 (fun v5 => ?_)
        refine dn_lload_n (pc := 53) 3 dX13_foldsNumber_53 rfl ?_
        refine dn_ladd (pc := 54) dX13_foldsNumber_54 ?_
        exact dn_lv [] rfl (hj55 r0 (v5 + p3))
      · refine dn_aload_n (pc := 38) r0 0 dX13_foldsNumber_38 rfl ?_
        refine dn_getL (pc := 39) r0 lRX13_370 dX13_foldsNumber_39 (fun v6 => ?_)
        refine dn_lload_n (pc := 42) 3 dX13_foldsNumber_42 rfl ?_
        refine dn_ladd (pc := 43) dX13_foldsNumber_43 ?_
        refine dn_l2i (pc := 44) dX13_foldsNumber_44 ?_
        refine dn_i2l (pc := 45) dX13_foldsNumber_45 ?_
        refine dn_goto (pc := 46) 55 dX13_foldsNumber_46 rfl ?_
        exact dn_lv [] rfl (hj55 r0 (((((v6 + p3) : Int64).toInt32) : Int32).toInt64))
  · refine dn_aload_n (pc := 5) r0 0 dX13_foldsNumber_5 rfl ?_
    refine dn_dup (pc := 6) dX13_foldsNumber_6 (dn_cat b _) ?_
    refine dn_getL (pc := 7) r0 lRX13_370 dX13_foldsNumber_7 (fun v7 => ?_)
    refine dn_lload_n (pc := 10) 3 dX13_foldsNumber_10 rfl ?_
    refine dn_lconst (pc := 11) (v := 0) dX13_foldsNumber_11 rfl ?_
    refine dn_lcmp (pc := 12) dX13_foldsNumber_12 ?_
    refine dn_if_eq (pc := 13) 20 dX13_foldsNumber_13 rfl (fun _ => ?_) (fun _ => ?_)
    · refine dn_lconst (pc := 20) (v := 0) dX13_foldsNumber_20 rfl ?_
      exact dn_lv [] rfl (hj21 r0 v7 0)
    · refine dn_lconst (pc := 16) (v := 1) dX13_foldsNumber_16 rfl ?_
      refine dn_goto (pc := 17) 21 dX13_foldsNumber_17 rfl ?_
      exact dn_lv [] rfl (hj21 r0 v7 1)
abbrev rmX13_foldsReal : Room := { frames := 0, cells := 0, slots := 0, locals := 0 }
def fX13_foldsReal_j78 (l0 : Option Nat) (l2 : UInt64) : dnM Unit :=
  dnB (dnPD l0 11 21 l2) fun _ =>
  dnP ()
def fX13_foldsReal_j21 (s0 : Option Nat) (s1 : Int64) (s2 : Int64) : dnM Unit :=
  dnB (dnPL s0 11 20 (s1 + s2)) fun _ =>
  dnP ()
def fX13_foldsReal (r0 : Option Nat) (p1 : Int32) (p2 : UInt64) : dnM Unit :=
  if ¬ p1 = 4 then
  (if ¬ p1 = 0 then
  (dnB (dnGI r0 11 19) fun v1 =>
  if v1 = 0 then
  (fX13_foldsReal_j78 r0 p2)
  else
  (if ¬ p1 = 1 then
  (dnB (dnGD r0 11 21) fun v2 =>
  if (Op.cmpValue (FP.dcmp p2 v2) .l) ≤ 0 then
  (dnP ())
  else
  (fX13_foldsReal_j78 r0 p2))
  else
  (dnB (dnGD r0 11 21) fun v3 =>
  if 0 ≤ (Op.cmpValue (FP.dcmp p2 v3) .g) then
  (dnP ())
  else
  (fX13_foldsReal_j78 r0 p2))))
  else
  (dnB (dnGD r0 11 21) fun v4 =>
  dnB (dnN64 (FP.dadd v4 p2)) fun v5 =>
  dnB (dnPD r0 11 21 v5) fun _ =>
  dnP ()))
  else
  (dnB (dnGL r0 11 20) fun v6 =>
  if (Op.cmpValue (FP.dcmp p2 FP.dconst0) .l) = 0 then
  (fX13_foldsReal_j21 r0 v6 0)
  else
  (fX13_foldsReal_j21 r0 v6 1))
abbrev jX13_foldsReal (w : dnWd) (x : dnX) (b : Nat) := dnD w x b (fun _ => True) cX13_foldsReal RX13 4 rmX13_foldsReal "foldsReal" eU
set_option maxHeartbeats 4000000 in
set_option maxRecDepth 100000 in
theorem mX13_foldsReal (w : dnWd) (x : dnX) (b : Nat) (r0 : Option Nat) (p1 : Int32) (p2 : UInt64) : dnMt w x b yX13_foldsReal cX13_foldsReal 4 none rmX13_foldsReal eU [dnV b r0, .int p1, .double p2] (fX13_foldsReal r0 p1 p2) := by
  have hlv : lv_args 0 [dnV b r0, .int p1, .double p2] = [(0, dnV b r0), (1, .int p1), (2, .double p2)] := by cases r0 <;> rfl
  refine dn_mt (by decide +kernel) roU (by cases r0 <;> exact (Nat.le_of_ble_eq_true rfl)) ?_
  rw [hlv]
  refine dn_top ?_
  show jX13_foldsReal w x b 0 0 0 _ [] (dnB _ dnP)
  unfold fX13_foldsReal
  have hj78 : ∀ (l0 : Option Nat) (l2 : UInt64), jX13_foldsReal w x b 78 0 0 [(0, dnV b l0), (2, .double l2)] [] (dnB (fX13_foldsReal_j78 l0 l2) dnP) := by
    intro l0 l2
    unfold fX13_foldsReal_j78
    refine dn_aload_n (pc := 78) l0 0 dX13_foldsReal_78 rfl ?_
    refine dn_dload_n (pc := 79) 1 dX13_foldsReal_79 rfl ?_
    refine dn_putD (pc := 80) l0 lRX13_376 dX13_foldsReal_80 ?_
    exact dn_ret (Nat.le_of_ble_eq_true rfl) (Nat.le_of_ble_eq_true rfl) rfl dX13_foldsReal_83
  have hj21 : ∀ (s0 : Option Nat) (s1 : Int64) (s2 : Int64), jX13_foldsReal w x b 21 0 0 [] [.long s2, .long s1, dnV b s0] (dnB (fX13_foldsReal_j21 s0 s1 s2) dnP) := by
    intro s0 s1 s2
    unfold fX13_foldsReal_j21
    refine dn_ladd (pc := 21) dX13_foldsReal_21 ?_
    refine dn_putL (pc := 22) s0 lRX13_370 dX13_foldsReal_22 ?_
    refine dn_goto (pc := 25) 83 dX13_foldsReal_25 rfl ?_
    exact dn_ret (Nat.le_of_ble_eq_true rfl) (Nat.le_of_ble_eq_true rfl) rfl dX13_foldsReal_83
  refine dn_iload_n (pc := 0) 1 dX13_foldsReal_0 rfl ?_
  refine dn_iconst (pc := 1) (v := 4) dX13_foldsReal_1 rfl ?_
  refine dn_icmp_ne (pc := 2) 28 dX13_foldsReal_2 rfl (fun _ => ?_) (fun _ => ?_)
  · refine dn_iload_n (pc := 28) 1 dX13_foldsReal_28 rfl ?_
    refine dn_if_ne (pc := 29) 45 dX13_foldsReal_29 rfl (fun _ => ?_) (fun _ => ?_)
    · refine dn_aload_n (pc := 45) r0 0 dX13_foldsReal_45 rfl ?_
      refine dn_getI (pc := 46) r0 lRX13_373 dX13_foldsReal_46 (fun v1 => ?_)
      refine dn_if_eq (pc := 49) 78 dX13_foldsReal_49 rfl (fun _ => ?_) (fun _ => ?_)
      · exact dn_lv [0, 2] rfl (hj78 r0 p2)
      · refine dn_iload_n (pc := 52) 1 dX13_foldsReal_52 rfl ?_
        refine dn_iconst (pc := 53) (v := 1) dX13_foldsReal_53 rfl ?_
        refine dn_icmp_ne (pc := 54) 69 dX13_foldsReal_54 rfl (fun _ => ?_) (fun _ => ?_)
        · refine dn_dload_n (pc := 69) 2 dX13_foldsReal_69 rfl ?_
          refine dn_aload_n (pc := 70) r0 0 dX13_foldsReal_70 rfl ?_
          refine dn_getD (pc := 71) r0 lRX13_376 dX13_foldsReal_71 (fun v2 => ?_)
          refine dn_dcmp (pc := 74) dX13_foldsReal_74 ?_
          refine dn_if_le (pc := 75) 83 dX13_foldsReal_75 rfl (fun _ => ?_) (fun _ => ?_)
          · exact dn_ret (Nat.le_of_ble_eq_true rfl) (Nat.le_of_ble_eq_true rfl) rfl dX13_foldsReal_83
          · exact dn_lv [0, 2] rfl (hj78 r0 p2)
        · refine dn_dload_n (pc := 57) 2 dX13_foldsReal_57 rfl ?_
          refine dn_aload_n (pc := 58) r0 0 dX13_foldsReal_58 rfl ?_
          refine dn_getD (pc := 59) r0 lRX13_376 dX13_foldsReal_59 (fun v3 => ?_)
          refine dn_dcmp (pc := 62) dX13_foldsReal_62 ?_
          refine dn_if_ge (pc := 63) 83 dX13_foldsReal_63 rfl (fun _ => ?_) (fun _ => ?_)
          · exact dn_ret (Nat.le_of_ble_eq_true rfl) (Nat.le_of_ble_eq_true rfl) rfl dX13_foldsReal_83
          · refine dn_goto (pc := 66) 78 dX13_foldsReal_66 rfl ?_
            exact dn_lv [0, 2] rfl (hj78 r0 p2)
    · refine dn_aload_n (pc := 32) r0 0 dX13_foldsReal_32 rfl ?_
      refine dn_dup (pc := 33) dX13_foldsReal_33 (dn_cat b _) ?_
      refine dn_getD (pc := 34) r0 lRX13_376 dX13_foldsReal_34 (fun v4 => ?_)
      refine dn_dload_n (pc := 37) 2 dX13_foldsReal_37 rfl ?_
      refine dn_dadd (pc := 38) dX13_foldsReal_38 (fun v5 => ?_)
      refine dn_putD (pc := 39) r0 lRX13_376 dX13_foldsReal_39 ?_
      refine dn_goto (pc := 42) 83 dX13_foldsReal_42 rfl ?_
      exact dn_ret (Nat.le_of_ble_eq_true rfl) (Nat.le_of_ble_eq_true rfl) rfl dX13_foldsReal_83
  · refine dn_aload_n (pc := 5) r0 0 dX13_foldsReal_5 rfl ?_
    refine dn_dup (pc := 6) dX13_foldsReal_6 (dn_cat b _) ?_
    refine dn_getL (pc := 7) r0 lRX13_370 dX13_foldsReal_7 (fun v6 => ?_)
    refine dn_dload_n (pc := 10) 2 dX13_foldsReal_10 rfl ?_
    refine dn_dconst0 (pc := 11) dX13_foldsReal_11 ?_
    refine dn_dcmp (pc := 12) dX13_foldsReal_12 ?_
    refine dn_if_eq (pc := 13) 20 dX13_foldsReal_13 rfl (fun _ => ?_) (fun _ => ?_)
    · refine dn_lconst (pc := 20) (v := 0) dX13_foldsReal_20 rfl ?_
      exact dn_lv [] rfl (hj21 r0 v6 0)
    · refine dn_lconst (pc := 16) (v := 1) dX13_foldsReal_16 rfl ?_
      refine dn_goto (pc := 17) 21 dX13_foldsReal_17 rfl ?_
      exact dn_lv [] rfl (hj21 r0 v6 1)
abbrev rmX13_foldsCell : Room := { frames := 3, cells := 0, slots := 0, locals := 65 }
def fX13_foldsCell_j54 (l0 : Option Nat) : dnM Bool :=
  dnB (dnGI l0 11 19) fun v1 =>
  dnB (dnPI l0 11 19 (v1 + 1)) fun _ =>
  dnP true
def fX13_foldsCell (r0 : Option Nat) (p1 : Int32) (p2 : Int32) (p3 : Int32) (p4 : Int32) : dnM Bool :=
  dnB (dnCv r0 11 (fX13_isReadable r0 p1 p4)) fun v2 =>
  if v2 = true then
  (dnB (dnCv r0 11 (fX13_loads r0 p1 p2)) fun _ =>
  dnB (dnCv r0 11 (fX13_widens r0 p4)) fun _ =>
  if ¬ p4 = 7 then
  (dnB (dnGL r0 11 13) fun v5 =>
  dnB (dnCv r0 11 (fX13_foldsNumber r0 p3 p4 v5)) fun _ =>
  fX13_foldsCell_j54 r0)
  else
  (dnB (dnGD r0 11 14) fun v7 =>
  dnB (dnCv r0 11 (fX13_foldsReal r0 p3 v7)) fun _ =>
  fX13_foldsCell_j54 r0))
  else
  (dnP false)
abbrev jX13_foldsCell (w : dnWd) (x : dnX) (b : Nat) := dnD w x b (fun _ => True) cX13_foldsCell RX13 5 rmX13_foldsCell "foldsCell" eZ
set_option maxHeartbeats 4000000 in
set_option maxRecDepth 100000 in
theorem mX13_foldsCell (w : dnWd) (x : dnX) (b : Nat) (r0 : Option Nat) (p1 : Int32) (p2 : Int32) (p3 : Int32) (p4 : Int32) : dnMt w x b yX13_foldsCell cX13_foldsCell 5 (some .boolean) rmX13_foldsCell eZ [dnV b r0, .int p1, .int p2, .int p3, .int p4] (fX13_foldsCell r0 p1 p2 p3 p4) := by
  have hlv : lv_args 0 [dnV b r0, .int p1, .int p2, .int p3, .int p4] = [(0, dnV b r0), (1, .int p1), (2, .int p2), (3, .int p3), (4, .int p4)] := by cases r0 <;> rfl
  refine dn_mt (by decide +kernel) roZ (by cases r0 <;> exact (Nat.le_of_ble_eq_true rfl)) ?_
  rw [hlv]
  refine dn_top ?_
  show jX13_foldsCell w x b 0 0 0 _ [] (dnB _ dnP)
  unfold fX13_foldsCell
  have hj54 : ∀ (l0 : Option Nat), jX13_foldsCell w x b 54 0 0 [(0, dnV b l0)] [] (dnB (fX13_foldsCell_j54 l0) dnP) := by
    intro l0
    unfold fX13_foldsCell_j54
    refine dn_aload_n (pc := 54) l0 0 dX13_foldsCell_54 rfl ?_
    refine dn_dup (pc := 55) dX13_foldsCell_55 (dn_cat b _) ?_
    refine dn_getI (pc := 56) l0 lRX13_373 dX13_foldsCell_56 (fun v1 => ?_)
    refine dn_iconst (pc := 59) (v := 1) dX13_foldsCell_59 rfl ?_
    refine dn_iadd (pc := 60) dX13_foldsCell_60 ?_
    refine dn_putI (pc := 61) l0 lRX13_373 dX13_foldsCell_61 ?_
    refine dn_iconst (pc := 64) (v := 1) dX13_foldsCell_64 rfl ?_
    exact dn_ret (Nat.le_of_ble_eq_true rfl) (Nat.le_of_ble_eq_true rfl) rfl dX13_foldsCell_65
  refine dn_aload_n (pc := 0) r0 0 dX13_foldsCell_0 rfl ?_
  refine dn_iload_n (pc := 1) 1 dX13_foldsCell_1 rfl ?_
  refine dn_iload (pc := 2) 4 dX13_foldsCell_2 rfl ?_
  refine dn_callV0Z (pc := 4) [.int p1, .int p4] r0 kRX13_233 (mX13_isReadable w x b r0 p1 p4) rfl rfl (Nat.le_of_ble_eq_true rfl) ⟨(Nat.le_of_ble_eq_true rfl), (Nat.le_of_ble_eq_true rfl)⟩ ⟨rfl, rfl, (Nat.le_of_ble_eq_true rfl), (Nat.le_of_ble_eq_true rfl)⟩ dX13_foldsCell_4 (fun v2 => ?_)
  refine dn_ifz_ne (pc := 7) 12 dX13_foldsCell_7 rfl (fun _ => ?_) (fun _ => ?_)
  · refine dn_aload_n (pc := 12) r0 0 dX13_foldsCell_12 rfl ?_
    refine dn_iload_n (pc := 13) 1 dX13_foldsCell_13 rfl ?_
    refine dn_iload_n (pc := 14) 2 dX13_foldsCell_14 rfl ?_
    refine dn_callV0U (pc := 15) [.int p1, .int p2] r0 kRX13_236 (mX13_loads w x b r0 p1 p2) rfl rfl (Nat.le_of_ble_eq_true rfl) ⟨(Nat.le_of_ble_eq_true rfl), (Nat.le_of_ble_eq_true rfl)⟩ ⟨rfl, rfl, (Nat.le_of_ble_eq_true rfl), (Nat.le_of_ble_eq_true rfl)⟩ dX13_foldsCell_15 (fun _ => ?_)
    refine dn_aload_n (pc := 18) r0 0 dX13_foldsCell_18 rfl ?_
    refine dn_iload (pc := 19) 4 dX13_foldsCell_19 rfl ?_
    refine dn_callV0U (pc := 21) [.int p4] r0 kRX13_212 (mX13_widens w x b r0 p4) rfl rfl (Nat.le_of_ble_eq_true rfl) ⟨(Nat.le_of_ble_eq_true rfl), (Nat.le_of_ble_eq_true rfl)⟩ ⟨rfl, rfl, (Nat.le_of_ble_eq_true rfl), (Nat.le_of_ble_eq_true rfl)⟩ dX13_foldsCell_21 (fun _ => ?_)
    refine dn_iload (pc := 24) 4 dX13_foldsCell_24 rfl ?_
    refine dn_bipush (pc := 26) (v := 7) dX13_foldsCell_26 rfl ?_
    refine dn_icmp_ne (pc := 28) 43 dX13_foldsCell_28 rfl (fun _ => ?_) (fun _ => ?_)
    · refine dn_aload_n (pc := 43) r0 0 dX13_foldsCell_43 rfl ?_
      refine dn_iload_n (pc := 44) 3 dX13_foldsCell_44 rfl ?_
      refine dn_iload (pc := 45) 4 dX13_foldsCell_45 rfl ?_
      refine dn_aload_n (pc := 47) r0 0 dX13_foldsCell_47 rfl ?_
      refine dn_getL (pc := 48) r0 lRX13_197 dX13_foldsCell_48 (fun v5 => ?_)
      refine dn_callV0U (pc := 51) [.int p3, .int p4, .long v5] r0 kRX13_396 (mX13_foldsNumber w x b r0 p3 p4 v5) rfl rfl (Nat.le_of_ble_eq_true rfl) ⟨(Nat.le_of_ble_eq_true rfl), (Nat.le_of_ble_eq_true rfl)⟩ ⟨rfl, rfl, (Nat.le_of_ble_eq_true rfl), (Nat.le_of_ble_eq_true rfl)⟩ dX13_foldsCell_51 (fun _ => ?_)
      exact dn_lv [0] rfl (hj54 r0)
    · refine dn_aload_n (pc := 31) r0 0 dX13_foldsCell_31 rfl ?_
      refine dn_iload_n (pc := 32) 3 dX13_foldsCell_32 rfl ?_
      refine dn_aload_n (pc := 33) r0 0 dX13_foldsCell_33 rfl ?_
      refine dn_getD (pc := 34) r0 lRX13_193 dX13_foldsCell_34 (fun v7 => ?_)
      refine dn_callV0U (pc := 37) [.int p3, .double v7] r0 kRX13_392 (mX13_foldsReal w x b r0 p3 v7) rfl rfl (Nat.le_of_ble_eq_true rfl) ⟨(Nat.le_of_ble_eq_true rfl), (Nat.le_of_ble_eq_true rfl)⟩ ⟨rfl, rfl, (Nat.le_of_ble_eq_true rfl), (Nat.le_of_ble_eq_true rfl)⟩ dX13_foldsCell_37 (fun _ => ?_)
      refine dn_goto (pc := 40) 54 dX13_foldsCell_40 rfl ?_
      exact dn_lv [0] rfl (hj54 r0)
  · refine dn_iconst (pc := 10) (v := 0) dX13_foldsCell_10 rfl ?_
    exact dn_ret (Nat.le_of_ble_eq_true rfl) (Nat.le_of_ble_eq_true rfl) rfl dX13_foldsCell_11
abbrev rmX13_isOfWay : Room := { frames := 0, cells := 0, slots := 0, locals := 0 }
def fX13_isOfWay (p0 : Int32) (p1 : Int32) (p2 : Int32) (p3 : Int32) : dnM Bool :=
  if ¬ p0 = 0 then
  (if ¬ p0 = 1 then
  (if ¬ p0 = 2 then
  (dnP true)
  else
  (if ¬ (p2 + p3) = p1 then
  (dnP false)
  else
  (dnP true)))
  else
  (if ¬ p3 = p1 then
  (dnP false)
  else
  (dnP true)))
  else
  (if ¬ p2 = p1 then
  (dnP false)
  else
  (dnP true))
abbrev jX13_isOfWay (w : dnWd) (x : dnX) (b : Nat) := dnD w x b (fun _ => True) cX13_isOfWay RX13 4 rmX13_isOfWay "isOfWay" eZ
set_option maxHeartbeats 4000000 in
set_option maxRecDepth 100000 in
theorem mX13_isOfWay (w : dnWd) (x : dnX) (b : Nat) (p0 : Int32) (p1 : Int32) (p2 : Int32) (p3 : Int32) : dnMt w x b yX13_isOfWay cX13_isOfWay 4 (some .boolean) rmX13_isOfWay eZ [.int p0, .int p1, .int p2, .int p3] (fX13_isOfWay p0 p1 p2 p3) := by
  have hlv : lv_args 0 [.int p0, .int p1, .int p2, .int p3] = [(0, .int p0), (1, .int p1), (2, .int p2), (3, .int p3)] := by rfl
  refine dn_mt (by decide +kernel) roZ (by exact (Nat.le_of_ble_eq_true rfl)) ?_
  rw [hlv]
  refine dn_top ?_
  show jX13_isOfWay w x b 0 0 0 _ [] (dnB _ dnP)
  unfold fX13_isOfWay
  refine dn_iload_n (pc := 0) 0 dX13_isOfWay_0 rfl ?_
  refine dn_if_ne (pc := 1) 17 dX13_isOfWay_1 rfl (fun _ => ?_) (fun _ => ?_)
  · refine dn_iload_n (pc := 17) 0 dX13_isOfWay_17 rfl ?_
    refine dn_iconst (pc := 18) (v := 1) dX13_isOfWay_18 rfl ?_
    refine dn_icmp_ne (pc := 19) 35 dX13_isOfWay_19 rfl (fun _ => ?_) (fun _ => ?_)
    · refine dn_iload_n (pc := 35) 0 dX13_isOfWay_35 rfl ?_
      refine dn_iconst (pc := 36) (v := 2) dX13_isOfWay_36 rfl ?_
      refine dn_icmp_ne (pc := 37) 55 dX13_isOfWay_37 rfl (fun _ => ?_) (fun _ => ?_)
      · refine dn_iconst (pc := 55) (v := 1) dX13_isOfWay_55 rfl ?_
        exact dn_ret (Nat.le_of_ble_eq_true rfl) (Nat.le_of_ble_eq_true rfl) rfl dX13_isOfWay_56
      · refine dn_iload_n (pc := 40) 2 dX13_isOfWay_40 rfl ?_
        refine dn_iload_n (pc := 41) 3 dX13_isOfWay_41 rfl ?_
        refine dn_iadd (pc := 42) dX13_isOfWay_42 ?_
        refine dn_iload_n (pc := 43) 1 dX13_isOfWay_43 rfl ?_
        refine dn_icmp_ne (pc := 44) 51 dX13_isOfWay_44 rfl (fun _ => ?_) (fun _ => ?_)
        · refine dn_iconst (pc := 51) (v := 0) dX13_isOfWay_51 rfl ?_
          refine dn_goto (pc := 52) 56 dX13_isOfWay_52 rfl ?_
          exact dn_ret (Nat.le_of_ble_eq_true rfl) (Nat.le_of_ble_eq_true rfl) rfl dX13_isOfWay_56
        · refine dn_iconst (pc := 47) (v := 1) dX13_isOfWay_47 rfl ?_
          refine dn_goto (pc := 48) 56 dX13_isOfWay_48 rfl ?_
          exact dn_ret (Nat.le_of_ble_eq_true rfl) (Nat.le_of_ble_eq_true rfl) rfl dX13_isOfWay_56
    · refine dn_iload_n (pc := 22) 3 dX13_isOfWay_22 rfl ?_
      refine dn_iload_n (pc := 23) 1 dX13_isOfWay_23 rfl ?_
      refine dn_icmp_ne (pc := 24) 31 dX13_isOfWay_24 rfl (fun _ => ?_) (fun _ => ?_)
      · refine dn_iconst (pc := 31) (v := 0) dX13_isOfWay_31 rfl ?_
        refine dn_goto (pc := 32) 56 dX13_isOfWay_32 rfl ?_
        exact dn_ret (Nat.le_of_ble_eq_true rfl) (Nat.le_of_ble_eq_true rfl) rfl dX13_isOfWay_56
      · refine dn_iconst (pc := 27) (v := 1) dX13_isOfWay_27 rfl ?_
        refine dn_goto (pc := 28) 56 dX13_isOfWay_28 rfl ?_
        exact dn_ret (Nat.le_of_ble_eq_true rfl) (Nat.le_of_ble_eq_true rfl) rfl dX13_isOfWay_56
  · refine dn_iload_n (pc := 4) 2 dX13_isOfWay_4 rfl ?_
    refine dn_iload_n (pc := 5) 1 dX13_isOfWay_5 rfl ?_
    refine dn_icmp_ne (pc := 6) 13 dX13_isOfWay_6 rfl (fun _ => ?_) (fun _ => ?_)
    · refine dn_iconst (pc := 13) (v := 0) dX13_isOfWay_13 rfl ?_
      refine dn_goto (pc := 14) 56 dX13_isOfWay_14 rfl ?_
      exact dn_ret (Nat.le_of_ble_eq_true rfl) (Nat.le_of_ble_eq_true rfl) rfl dX13_isOfWay_56
    · refine dn_iconst (pc := 9) (v := 1) dX13_isOfWay_9 rfl ?_
      refine dn_goto (pc := 10) 56 dX13_isOfWay_10 rfl ?_
      exact dn_ret (Nat.le_of_ble_eq_true rfl) (Nat.le_of_ble_eq_true rfl) rfl dX13_isOfWay_56
abbrev rmX13_foldAnswer : Room := { frames := 4, cells := 0, slots := 0, locals := 89 }
def fX13_foldAnswer_j257 (l0 : Option Nat) (s0 : Option Nat) (s1 : Int64) : dnM Int32 :=
  dnB (dnGI l0 11 19) fun v1 =>
  dnB (dnCv s0 11 (fX13_tells s0 s1 v1)) fun v2 =>
  dnP v2
def fX13_foldAnswer_j253 (l0 : Option Nat) (s0 : Option Nat) : dnM Int32 :=
  dnB (dnGL l0 11 20) fun v3 =>
  fX13_foldAnswer_j257 l0 s0 v3
def fX13_foldAnswer_j215 (l0 : Option Nat) (l1 : Int32) (l2 : Int32) (l3 : Int32) (l4 : Int32) (l5 : Int32) (l8 : Int32) (l9 : Int32) : dnM ((Int32 × Int32) ⊕ (Int32)) :=
  dnP (.inl (l8, (l9 + 1)))
def fX13_foldAnswer_j212 (l0 : Option Nat) (l1 : Int32) (l2 : Int32) (l3 : Int32) (l4 : Int32) (l5 : Int32) (l9 : Int32) (s0 : Int32) (s1 : Bool) : dnM ((Int32 × Int32) ⊕ (Int32)) :=
  fX13_foldAnswer_j215 l0 l1 l2 l3 l4 l5 (s0 + (dnZ s1)) l9
def fX13_foldAnswer_b133 (c0 : Option Nat) (c1 : Int32) (c2 : Int32) (c3 : Int32) (c4 : Int32) (c5 : Int32) (s133 : Int32 × Int32) : dnM ((Int32 × Int32) ⊕ (Int32)) :=
  dnB (dnGR c0 11 4) fun v4 =>
  dnB (dnAI v4 100 c1) fun v5 =>
  if (12 * v5) ≤ s133.2 then
  (dnP (.inr s133.1))
  else
  (dnB (dnNz 12) fun _ =>
  dnB (dnNz 12) fun _ =>
  dnB (dnCv c0 11 (fX13_hasCell c0 c1 (s133.2 / 12) (s133.2 - s133.2 / 12 * 12))) fun v6 =>
  if v6 = true then
  (dnB (fX13_isOfWay c2 c3 (s133.2 / 12) (s133.2 - s133.2 / 12 * 12)) fun v7 =>
  if v7 = true then
  (dnB (dnCv c0 11 (fX13_held c0 c1 (s133.2 / 12))) fun v8 =>
  dnB (dnCv c0 11 (fX13_foldsCell c0 v8 (s133.2 - s133.2 / 12 * 12) c4 c5)) fun v9 =>
  if v9 = true then
  (fX13_foldAnswer_j212 c0 c1 c2 c3 c4 c5 s133.2 s133.1 false)
  else
  (fX13_foldAnswer_j212 c0 c1 c2 c3 c4 c5 s133.2 s133.1 true))
  else
  (fX13_foldAnswer_j215 c0 c1 c2 c3 c4 c5 s133.1 s133.2))
  else
  (fX13_foldAnswer_j215 c0 c1 c2 c3 c4 c5 s133.1 s133.2))
def fX13_foldAnswer_j102 (l0 : Option Nat) (l1 : Int32) (l2 : Int32) (l3 : Int32) (l4 : Int32) (l5 : Int32) (s0 : Int32) : dnM Int32 :=
  if s0 = 0 then
  (dnB (dnPI l0 11 19 0) fun _ =>
  dnB (dnPL l0 11 20 0) fun _ =>
  dnB (dnPD l0 11 21 FP.dconst0) fun _ =>
  dnB (dnIt 1000 (fX13_foldAnswer_b133 l0 l1 l2 l3 l4 l5) (0, 0)) fun q133 =>
  dnB (dnPI l0 11 3 q133) fun _ =>
  if ¬ l5 = 7 then
  (fX13_foldAnswer_j253 l0 l0)
  else
  (if l4 = 4 then
  (fX13_foldAnswer_j253 l0 l0)
  else
  (dnB (dnGD l0 11 21) fun v10 =>
  dnB (dnN64 (FP.dmul 4620693217682128896 v10)) fun v11 =>
  fX13_foldAnswer_j257 l0 l0 (FP.d2l v11))))
  else
  (dnP s0)
def fX13_foldAnswer_j74 (l0 : Option Nat) (l1 : Int32) (l2 : Int32) (l3 : Int32) (l4 : Int32) (l5 : Int32) : dnM Int32 :=
  if ¬ l2 = 0 then
  (dnB (dnGR l0 11 4) fun v12 =>
  dnB (dnAI v12 100 l1) fun v13 =>
  if 0 ≤ v13 then
  (fX13_foldAnswer_j102 l0 l1 l2 l3 l4 l5 0)
  else
  (fX13_foldAnswer_j102 l0 l1 l2 l3 l4 l5 (-2)))
  else
  (dnB (dnCv l0 11 (fX13_placeFault l0 l1 l3)) fun v14 =>
  fX13_foldAnswer_j102 l0 l1 l2 l3 l4 l5 v14)
def fX13_foldAnswer_j59 (l0 : Option Nat) (l1 : Int32) (l2 : Int32) (l3 : Int32) (l4 : Int32) (l5 : Int32) : dnM Int32 :=
  if ¬ l4 = 3 then
  (fX13_foldAnswer_j74 l0 l1 l2 l3 l4 l5)
  else
  (if ¬ l5 = 7 then
  (fX13_foldAnswer_j74 l0 l1 l2 l3 l4 l5)
  else
  (dnP (-1)))
def fX13_foldAnswer_j43 (l0 : Option Nat) (l1 : Int32) (l2 : Int32) (l3 : Int32) (l4 : Int32) (l5 : Int32) (s0 : Bool) : dnM Int32 :=
  if s0 = true then
  (if ¬ l2 = 3 then
  (fX13_foldAnswer_j59 l0 l1 l2 l3 l4 l5)
  else
  (if ¬ l3 = 0 then
  (dnP (-1))
  else
  (fX13_foldAnswer_j59 l0 l1 l2 l3 l4 l5)))
  else
  (dnP (-1))
def fX13_foldAnswer_j42 (l0 : Option Nat) (l1 : Int32) (l2 : Int32) (l3 : Int32) (l4 : Int32) (l5 : Int32) : dnM Int32 :=
  fX13_foldAnswer_j43 l0 l1 l2 l3 l4 l5 false
def fX13_foldAnswer (r0 : Option Nat) (p1 : Int32) (p2 : Int32) (p3 : Int32) (p4 : Int32) (p5 : Int32) : dnM Int32 :=
  dnB (fX13_isGrid p1) fun v15 =>
  if v15 = true then
  (dnB (fX13_in p2 0 3) fun v16 =>
  if v16 = true then
  (if p3 < 0 then
  (fX13_foldAnswer_j42 r0 p1 p2 p3 p4 p5)
  else
  (dnB (fX13_in p4 0 4) fun v17 =>
  if v17 = true then
  (dnB (fX13_isAs p5) fun v18 =>
  if v18 = true then
  (fX13_foldAnswer_j43 r0 p1 p2 p3 p4 p5 true)
  else
  (fX13_foldAnswer_j42 r0 p1 p2 p3 p4 p5))
  else
  (fX13_foldAnswer_j42 r0 p1 p2 p3 p4 p5)))
  else
  (fX13_foldAnswer_j42 r0 p1 p2 p3 p4 p5))
  else
  (fX13_foldAnswer_j42 r0 p1 p2 p3 p4 p5)
abbrev jX13_foldAnswer (w : dnWd) (x : dnX) (b : Nat) := dnD w x b (fun _ => True) cX13_foldAnswer RX13 12 rmX13_foldAnswer "foldAnswer" eI
set_option maxHeartbeats 4000000 in
set_option maxRecDepth 100000 in
theorem mX13_foldAnswer (w : dnWd) (x : dnX) (b : Nat) (r0 : Option Nat) (p1 : Int32) (p2 : Int32) (p3 : Int32) (p4 : Int32) (p5 : Int32) : dnMt w x b yX13_foldAnswer cX13_foldAnswer 12 (some .int) rmX13_foldAnswer eI [dnV b r0, .int p1, .int p2, .int p3, .int p4, .int p5] (fX13_foldAnswer r0 p1 p2 p3 p4 p5) := by
  have hlv : lv_args 0 [dnV b r0, .int p1, .int p2, .int p3, .int p4, .int p5] = [(0, dnV b r0), (1, .int p1), (2, .int p2), (3, .int p3), (4, .int p4), (5, .int p5)] := by cases r0 <;> rfl
  refine dn_mt (by decide +kernel) roI (by cases r0 <;> exact (Nat.le_of_ble_eq_true rfl)) ?_
  rw [hlv]
  refine dn_top ?_
  show jX13_foldAnswer w x b 0 0 0 _ [] (dnB _ dnP)
  unfold fX13_foldAnswer
  have hj257 : ∀ (l0 : Option Nat) (s0 : Option Nat) (s1 : Int64), jX13_foldAnswer w x b 257 0 0 [(0, dnV b l0)] [.long s1, dnV b s0] (dnB (fX13_foldAnswer_j257 l0 s0 s1) dnP) := by
    intro l0 s0 s1
    unfold fX13_foldAnswer_j257
    refine dn_aload_n (pc := 257) l0 0 dX13_foldAnswer_257 rfl ?_
    refine dn_getI (pc := 258) l0 lRX13_373 dX13_foldAnswer_258 (fun v1 => ?_)
    refine dn_callV0I (pc := 261) [.long s1, .int v1] s0 kRX13_243 (mX13_tells w x b s0 s1 v1) rfl rfl (Nat.le_of_ble_eq_true rfl) ⟨(Nat.le_of_ble_eq_true rfl), (Nat.le_of_ble_eq_true rfl)⟩ ⟨rfl, rfl, (Nat.le_of_ble_eq_true rfl), (Nat.le_of_ble_eq_true rfl)⟩ dX13_foldAnswer_261 (fun v2 => ?_)
    exact dn_ret (Nat.le_of_ble_eq_true rfl) (Nat.le_of_ble_eq_true rfl) rfl dX13_foldAnswer_264
  have hj253 : ∀ (l0 : Option Nat) (s0 : Option Nat), jX13_foldAnswer w x b 253 0 0 [(0, dnV b l0)] [dnV b s0] (dnB (fX13_foldAnswer_j253 l0 s0) dnP) := by
    intro l0 s0
    unfold fX13_foldAnswer_j253
    refine dn_aload_n (pc := 253) l0 0 dX13_foldAnswer_253 rfl ?_
    refine dn_getL (pc := 254) l0 lRX13_370 dX13_foldAnswer_254 (fun v3 => ?_)
    exact dn_lv [0] rfl (hj257 l0 s0 v3)
  have hj102 : ∀ (l0 : Option Nat) (l1 : Int32) (l2 : Int32) (l3 : Int32) (l4 : Int32) (l5 : Int32) (s0 : Int32), jX13_foldAnswer w x b 102 0 0 [(0, dnV b l0), (1, .int l1), (2, .int l2), (3, .int l3), (4, .int l4), (5, .int l5)] [.int s0] (dnB (fX13_foldAnswer_j102 l0 l1 l2 l3 l4 l5 s0) dnP) := by
    intro l0 l1 l2 l3 l4 l5 s0
    unfold fX13_foldAnswer_j102
    refine dn_istore (pc := 102) dX13_foldAnswer_102 (Nat.le_of_ble_eq_true rfl) (dnKp_of (lv2 := [(0, dnV b l0), (1, .int l1), (2, .int l2), (3, .int l3), (4, .int l4), (5, .int l5)]) [0, 1, 2, 3, 4, 5] rfl rfl) ?_
    refine dn_iload (pc := 104) 0 dX13_foldAnswer_104 rfl ?_
    refine dn_if_eq (pc := 106) 112 dX13_foldAnswer_106 rfl (fun _ => ?_) (fun _ => ?_)
    · refine dn_aload_n (pc := 112) l0 1 dX13_foldAnswer_112 rfl ?_
      refine dn_iconst (pc := 113) (v := 0) dX13_foldAnswer_113 rfl ?_
      refine dn_putI (pc := 114) l0 lRX13_373 dX13_foldAnswer_114 ?_
      refine dn_aload_n (pc := 117) l0 1 dX13_foldAnswer_117 rfl ?_
      refine dn_lconst (pc := 118) (v := 0) dX13_foldAnswer_118 rfl ?_
      refine dn_putL (pc := 119) l0 lRX13_370 dX13_foldAnswer_119 ?_
      refine dn_aload_n (pc := 122) l0 1 dX13_foldAnswer_122 rfl ?_
      refine dn_dconst0 (pc := 123) dX13_foldAnswer_123 ?_
      refine dn_putD (pc := 124) l0 lRX13_376 dX13_foldAnswer_124 ?_
      refine dn_iconst (pc := 127) (v := 0) dX13_foldAnswer_127 rfl ?_
      refine dn_istore (pc := 128) dX13_foldAnswer_128 (Nat.le_of_ble_eq_true rfl) (dnKp_of (lv2 := [(0, dnV b l0), (1, .int l1), (2, .int l2), (3, .int l3), (4, .int l4), (5, .int l5)]) [1, 2, 3, 4, 5, 6] rfl rfl) ?_
      refine dn_iconst (pc := 130) (v := 0) dX13_foldAnswer_130 rfl ?_
      refine dn_istore (pc := 131) dX13_foldAnswer_131 (Nat.le_of_ble_eq_true rfl) (dnKp_nb 0 rfl rfl rfl (dnKp_of (lv2 := [(0, dnV b l0), (1, .int l1), (2, .int l2), (3, .int l3), (4, .int l4), (5, .int l5)]) [1, 2, 3, 4, 5, 6] rfl rfl)) ?_
      refine dn_assoc ?_
      refine dn_lv [2, 3, 4, 5, 6, 7, 1, 0] (lv2 := (fun s => [(0, dnV b l0), (1, .int l1), (2, .int l2), (3, .int l3), (4, .int l4), (5, .int l5), (8, .int s.1), (9, .int s.2)]) (0, 0)) rfl ?_
      refine dn_loopE (pc := 133) (body := fX13_foldAnswer_b133 l0 l1 l2 l3 l4 l5) 221 (fun s => [(0, dnV b l0), (1, .int l1), (2, .int l2), (3, .int l3), (4, .int l4), (5, .int l5), (8, .int s.1), (9, .int s.2)]) (fun q => [(0, dnV b l0), (4, .int l4), (5, .int l5), (8, .int q)]) (fun s133 K133 E133 hK133 hE133 => ?_) (fun q133 => ?_) 1000 (0, 0)
      · unfold fX13_foldAnswer_b133
        have hj215 : ∀ (l8 : Int32) (l9 : Int32), jX13_foldAnswer w x b 215 0 0 [(0, dnV b l0), (1, .int l1), (2, .int l2), (3, .int l3), (4, .int l4), (5, .int l5), (8, .int l8), (9, .int l9)] [] (dnB (fX13_foldAnswer_j215 l0 l1 l2 l3 l4 l5 l8 l9) (dnKo K133 E133)) := by
          intro l8 l9
          unfold fX13_foldAnswer_j215
          refine dn_iinc (pc := 215) (l9 + 1) 7 dX13_foldAnswer_215 rfl rfl (Nat.le_of_ble_eq_true rfl) (dnKp_nb 6 rfl rfl rfl (dnKp_of (lv2 := [(0, dnV b l0), (1, .int l1), (2, .int l2), (3, .int l3), (4, .int l4), (5, .int l5)]) [0, 1, 2, 3, 4, 5] rfl rfl)) ?_
          refine dn_goto (pc := 218) 133 dX13_foldAnswer_218 rfl ?_
          refine dn_leaf ?_
          exact dn_lv [2, 3, 4, 5, 6, 7, 1, 0] rfl (hK133 (l8, (l9 + 1)))
        have hj212 : ∀ (l9 : Int32) (s0 : Int32) (s1 : Bool), jX13_foldAnswer w x b 212 0 0 [(0, dnV b l0), (1, .int l1), (2, .int l2), (3, .int l3), (4, .int l4), (5, .int l5), (9, .int l9)] [.int (dnZ s1), .int s0] (dnB (fX13_foldAnswer_j212 l0 l1 l2 l3 l4 l5 l9 s0 s1) (dnKo K133 E133)) := by
          intro l9 s0 s1
          unfold fX13_foldAnswer_j212
          refine dn_iadd (pc := 212) dX13_foldAnswer_212 ?_
          refine dn_istore (pc := 213) dX13_foldAnswer_213 (Nat.le_of_ble_eq_true rfl) (dnKp_of (lv2 := [(0, dnV b l0), (1, .int l1), (2, .int l2), (3, .int l3), (4, .int l4), (5, .int l5), (9, .int l9)]) [0, 1, 2, 3, 4, 5, 6] rfl rfl) ?_
          exact dn_lv [1, 2, 3, 4, 5, 6, 0, 7] rfl (hj215 (s0 + (dnZ s1)) l9)
        refine dn_iload (pc := 133) 7 dX13_foldAnswer_133 rfl ?_
        refine dn_bipush (pc := 135) (v := 12) dX13_foldAnswer_135 rfl ?_
        refine dn_aload_n (pc := 137) l0 0 dX13_foldAnswer_137 rfl ?_
        refine dn_getR (pc := 138) l0 lRX13_17 dX13_foldAnswer_138 (fun v4 => ?_)
        refine dn_iload_n (pc := 141) 1 dX13_foldAnswer_141 rfl ?_
        refine dn_iald (pc := 142) v4 dX13_foldAnswer_142 (fun v5 => ?_)
        refine dn_imul (pc := 143) dX13_foldAnswer_143 ?_
        refine dn_icmp_ge (pc := 144) 221 dX13_foldAnswer_144 rfl (fun _ => ?_) (fun _ => ?_)
        · refine dn_leaf ?_
          exact dn_lv [0, 4, 5, 6] rfl (hE133 s133.1)
        · refine dn_iload (pc := 147) 7 dX13_foldAnswer_147 rfl ?_
          refine dn_bipush (pc := 149) (v := 12) dX13_foldAnswer_149 rfl ?_
          refine dn_idiv (pc := 151) dX13_foldAnswer_151 ?_
          refine dn_istore (pc := 152) dX13_foldAnswer_152 (Nat.le_of_ble_eq_true rfl) (dnKp_nb 7 rfl rfl rfl (dnKp_of (lv2 := [(0, dnV b l0), (1, .int l1), (2, .int l2), (3, .int l3), (4, .int l4), (5, .int l5), (8, .int s133.1)]) [0, 1, 2, 3, 4, 5, 6] rfl rfl)) ?_
          refine dn_iload (pc := 154) 1 dX13_foldAnswer_154 rfl ?_
          refine dn_bipush (pc := 156) (v := 12) dX13_foldAnswer_156 rfl ?_
          refine dn_irem (pc := 158) dX13_foldAnswer_158 ?_
          refine dn_istore (pc := 159) dX13_foldAnswer_159 (Nat.le_of_ble_eq_true rfl) (dnKp_nb 0 rfl rfl rfl (dnKp_of (lv2 := [(9, .int s133.2), (0, dnV b l0), (1, .int l1), (2, .int l2), (3, .int l3), (4, .int l4), (5, .int l5), (8, .int s133.1)]) [1, 2, 3, 4, 5, 6, 7, 8] rfl rfl)) ?_
          refine dn_aload_n (pc := 161) l0 3 dX13_foldAnswer_161 rfl ?_
          refine dn_iload_n (pc := 162) 4 dX13_foldAnswer_162 rfl ?_
          refine dn_iload (pc := 163) 1 dX13_foldAnswer_163 rfl ?_
          refine dn_iload (pc := 165) 0 dX13_foldAnswer_165 rfl ?_
          refine dn_callV0Z (pc := 167) [.int l1, .int (s133.2 / 12), .int (s133.2 - s133.2 / 12 * 12)] l0 kRX13_348 (mX13_hasCell w x b l0 l1 (s133.2 / 12) (s133.2 - s133.2 / 12 * 12)) rfl rfl (Nat.le_of_ble_eq_true rfl) ⟨(Nat.le_of_ble_eq_true rfl), (Nat.le_of_ble_eq_true rfl)⟩ ⟨rfl, rfl, (Nat.le_of_ble_eq_true rfl), (Nat.le_of_ble_eq_true rfl)⟩ dX13_foldAnswer_167 (fun v6 => ?_)
          refine dn_ifz_eq (pc := 170) 215 dX13_foldAnswer_170 rfl (fun _ => ?_) (fun _ => ?_)
          · refine dn_iload_n (pc := 173) 5 dX13_foldAnswer_173 rfl ?_
            refine dn_iload_n (pc := 174) 6 dX13_foldAnswer_174 rfl ?_
            refine dn_iload (pc := 175) 1 dX13_foldAnswer_175 rfl ?_
            refine dn_iload (pc := 177) 0 dX13_foldAnswer_177 rfl ?_
            refine dn_callS0Z (pc := 179) [.int l2, .int l3, .int (s133.2 / 12), .int (s133.2 - s133.2 / 12 * 12)]  kRX13_382 (mX13_isOfWay w x b l2 l3 (s133.2 / 12) (s133.2 - s133.2 / 12 * 12)) rfl rfl (Nat.le_of_ble_eq_true rfl) ⟨(Nat.le_of_ble_eq_true rfl), (Nat.le_of_ble_eq_true rfl)⟩ ⟨rfl, rfl, (Nat.le_of_ble_eq_true rfl), (Nat.le_of_ble_eq_true rfl)⟩ dX13_foldAnswer_179 (fun v7 => ?_)
            refine dn_ifz_eq (pc := 182) 215 dX13_foldAnswer_182 rfl (fun _ => ?_) (fun _ => ?_)
            · refine dn_iload (pc := 185) 9 dX13_foldAnswer_185 rfl ?_
              refine dn_aload_n (pc := 187) l0 3 dX13_foldAnswer_187 rfl ?_
              refine dn_aload_n (pc := 188) l0 3 dX13_foldAnswer_188 rfl ?_
              refine dn_iload_n (pc := 189) 4 dX13_foldAnswer_189 rfl ?_
              refine dn_iload (pc := 190) 1 dX13_foldAnswer_190 rfl ?_
              refine dn_callV0I (pc := 192) [.int l1, .int (s133.2 / 12)] l0 kRX13_128 (mX13_held w x b l0 l1 (s133.2 / 12)) rfl rfl (Nat.le_of_ble_eq_true rfl) ⟨(Nat.le_of_ble_eq_true rfl), (Nat.le_of_ble_eq_true rfl)⟩ ⟨rfl, rfl, (Nat.le_of_ble_eq_true rfl), (Nat.le_of_ble_eq_true rfl)⟩ dX13_foldAnswer_192 (fun v8 => ?_)
              refine dn_iload (pc := 195) 0 dX13_foldAnswer_195 rfl ?_
              refine dn_iload (pc := 197) 7 dX13_foldAnswer_197 rfl ?_
              refine dn_iload (pc := 199) 8 dX13_foldAnswer_199 rfl ?_
              refine dn_callV0Z (pc := 201) [.int v8, .int (s133.2 - s133.2 / 12 * 12), .int l4, .int l5] l0 kRX13_386 (mX13_foldsCell w x b l0 v8 (s133.2 - s133.2 / 12 * 12) l4 l5) rfl rfl (Nat.le_of_ble_eq_true rfl) ⟨(Nat.le_of_ble_eq_true rfl), (Nat.le_of_ble_eq_true rfl)⟩ ⟨rfl, rfl, (Nat.le_of_ble_eq_true rfl), (Nat.le_of_ble_eq_true rfl)⟩ dX13_foldAnswer_201 (fun v9 => ?_)
              refine dn_ifz_eq (pc := 204) 211 dX13_foldAnswer_204 rfl (fun _ => ?_) (fun _ => ?_)
              · refine dn_iconst (pc := 207) (v := 0) dX13_foldAnswer_207 rfl ?_
                refine dn_goto (pc := 208) 212 dX13_foldAnswer_208 rfl ?_
                exact dn_lv [3, 4, 5, 6, 7, 8, 2] rfl (hj212 s133.2 s133.1 false)
              · refine dn_iconst (pc := 211) (v := 1) dX13_foldAnswer_211 rfl ?_
                exact dn_lv [3, 4, 5, 6, 7, 8, 2] rfl (hj212 s133.2 s133.1 true)
            · exact dn_lv [3, 4, 5, 6, 7, 8, 9, 2] rfl (hj215 s133.1 s133.2)
          · exact dn_lv [3, 4, 5, 6, 7, 8, 9, 2] rfl (hj215 s133.1 s133.2)
      · refine dn_aload_n (pc := 221) l0 0 dX13_foldAnswer_221 rfl ?_
        refine dn_iload (pc := 222) 3 dX13_foldAnswer_222 rfl ?_
        refine dn_putI (pc := 224) l0 lRX13_389 dX13_foldAnswer_224 ?_
        refine dn_aload_n (pc := 227) l0 0 dX13_foldAnswer_227 rfl ?_
        refine dn_iload (pc := 228) 2 dX13_foldAnswer_228 rfl ?_
        refine dn_bipush (pc := 230) (v := 7) dX13_foldAnswer_230 rfl ?_
        refine dn_icmp_ne (pc := 232) 253 dX13_foldAnswer_232 rfl (fun _ => ?_) (fun _ => ?_)
        · exact dn_lv [0] rfl (hj253 l0 l0)
        · refine dn_iload (pc := 235) 1 dX13_foldAnswer_235 rfl ?_
          refine dn_iconst (pc := 237) (v := 4) dX13_foldAnswer_237 rfl ?_
          refine dn_icmp_eq (pc := 238) 253 dX13_foldAnswer_238 rfl (fun _ => ?_) (fun _ => ?_)
          · exact dn_lv [0] rfl (hj253 l0 l0)
          · refine dn_ldc2d (pc := 241) kRX13_201 dX13_foldAnswer_241 ?_
            refine dn_aload_n (pc := 244) l0 0 dX13_foldAnswer_244 rfl ?_
            refine dn_getD (pc := 245) l0 lRX13_376 dX13_foldAnswer_245 (fun v10 => ?_)
            refine dn_dmul (pc := 248) dX13_foldAnswer_248 (fun v11 => ?_)
            refine dn_d2l (pc := 249) dX13_foldAnswer_249 ?_
            refine dn_goto (pc := 250) 257 dX13_foldAnswer_250 rfl ?_
            exact dn_lv [0] rfl (hj257 l0 l0 (FP.d2l v11))
    · refine dn_iload (pc := 109) 0 dX13_foldAnswer_109 rfl ?_
      exact dn_ret (Nat.le_of_ble_eq_true rfl) (Nat.le_of_ble_eq_true rfl) rfl dX13_foldAnswer_111
  have hj74 : ∀ (l0 : Option Nat) (l1 : Int32) (l2 : Int32) (l3 : Int32) (l4 : Int32) (l5 : Int32), jX13_foldAnswer w x b 74 0 0 [(0, dnV b l0), (1, .int l1), (2, .int l2), (3, .int l3), (4, .int l4), (5, .int l5)] [] (dnB (fX13_foldAnswer_j74 l0 l1 l2 l3 l4 l5) dnP) := by
    intro l0 l1 l2 l3 l4 l5
    unfold fX13_foldAnswer_j74
    refine dn_iload_n (pc := 74) 2 dX13_foldAnswer_74 rfl ?_
    refine dn_if_ne (pc := 75) 87 dX13_foldAnswer_75 rfl (fun _ => ?_) (fun _ => ?_)
    · refine dn_aload_n (pc := 87) l0 0 dX13_foldAnswer_87 rfl ?_
      refine dn_getR (pc := 88) l0 lRX13_17 dX13_foldAnswer_88 (fun v12 => ?_)
      refine dn_iload_n (pc := 91) 1 dX13_foldAnswer_91 rfl ?_
      refine dn_iald (pc := 92) v12 dX13_foldAnswer_92 (fun v13 => ?_)
      refine dn_if_ge (pc := 93) 101 dX13_foldAnswer_93 rfl (fun _ => ?_) (fun _ => ?_)
      · refine dn_iconst (pc := 101) (v := 0) dX13_foldAnswer_101 rfl ?_
        exact dn_lv [0, 1, 2, 3, 4, 5] rfl (hj102 l0 l1 l2 l3 l4 l5 0)
      · refine dn_bipush (pc := 96) (v := -2) dX13_foldAnswer_96 rfl ?_
        refine dn_goto (pc := 98) 102 dX13_foldAnswer_98 rfl ?_
        exact dn_lv [0, 1, 2, 3, 4, 5] rfl (hj102 l0 l1 l2 l3 l4 l5 (-2))
    · refine dn_aload_n (pc := 78) l0 0 dX13_foldAnswer_78 rfl ?_
      refine dn_iload_n (pc := 79) 1 dX13_foldAnswer_79 rfl ?_
      refine dn_iload_n (pc := 80) 3 dX13_foldAnswer_80 rfl ?_
      refine dn_callV0I (pc := 81) [.int l1, .int l3] l0 kRX13_124 (mX13_placeFault w x b l0 l1 l3) rfl rfl (Nat.le_of_ble_eq_true rfl) ⟨(Nat.le_of_ble_eq_true rfl), (Nat.le_of_ble_eq_true rfl)⟩ ⟨rfl, rfl, (Nat.le_of_ble_eq_true rfl), (Nat.le_of_ble_eq_true rfl)⟩ dX13_foldAnswer_81 (fun v14 => ?_)
      refine dn_goto (pc := 84) 102 dX13_foldAnswer_84 rfl ?_
      exact dn_lv [0, 1, 2, 3, 4, 5] rfl (hj102 l0 l1 l2 l3 l4 l5 v14)
  have hj59 : ∀ (l0 : Option Nat) (l1 : Int32) (l2 : Int32) (l3 : Int32) (l4 : Int32) (l5 : Int32), jX13_foldAnswer w x b 59 0 0 [(0, dnV b l0), (1, .int l1), (2, .int l2), (3, .int l3), (4, .int l4), (5, .int l5)] [] (dnB (fX13_foldAnswer_j59 l0 l1 l2 l3 l4 l5) dnP) := by
    intro l0 l1 l2 l3 l4 l5
    unfold fX13_foldAnswer_j59
    refine dn_iload (pc := 59) 4 dX13_foldAnswer_59 rfl ?_
    refine dn_iconst (pc := 61) (v := 3) dX13_foldAnswer_61 rfl ?_
    refine dn_icmp_ne (pc := 62) 74 dX13_foldAnswer_62 rfl (fun _ => ?_) (fun _ => ?_)
    · exact dn_lv [0, 1, 2, 3, 4, 5] rfl (hj74 l0 l1 l2 l3 l4 l5)
    · refine dn_iload (pc := 65) 5 dX13_foldAnswer_65 rfl ?_
      refine dn_bipush (pc := 67) (v := 7) dX13_foldAnswer_67 rfl ?_
      refine dn_icmp_ne (pc := 69) 74 dX13_foldAnswer_69 rfl (fun _ => ?_) (fun _ => ?_)
      · exact dn_lv [0, 1, 2, 3, 4, 5] rfl (hj74 l0 l1 l2 l3 l4 l5)
      · refine dn_iconst (pc := 72) (v := -1) dX13_foldAnswer_72 rfl ?_
        exact dn_ret (Nat.le_of_ble_eq_true rfl) (Nat.le_of_ble_eq_true rfl) rfl dX13_foldAnswer_73
  have hj43 : ∀ (l0 : Option Nat) (l1 : Int32) (l2 : Int32) (l3 : Int32) (l4 : Int32) (l5 : Int32) (s0 : Bool), jX13_foldAnswer w x b 43 0 0 [(0, dnV b l0), (1, .int l1), (2, .int l2), (3, .int l3), (4, .int l4), (5, .int l5)] [.int (dnZ s0)] (dnB (fX13_foldAnswer_j43 l0 l1 l2 l3 l4 l5 s0) dnP) := by
    intro l0 l1 l2 l3 l4 l5 s0
    unfold fX13_foldAnswer_j43
    refine dn_istore (pc := 43) dX13_foldAnswer_43 (Nat.le_of_ble_eq_true rfl) (dnKp_nb 5 rfl rfl rfl (dnKp_of (lv2 := [(0, dnV b l0), (1, .int l1), (2, .int l2), (3, .int l3), (4, .int l4)]) [0, 1, 2, 3, 4] rfl rfl)) ?_
    refine dn_iload (pc := 45) 0 dX13_foldAnswer_45 rfl ?_
    refine dn_ifz_eq (pc := 47) 72 dX13_foldAnswer_47 rfl (fun _ => ?_) (fun _ => ?_)
    · refine dn_iload_n (pc := 50) 4 dX13_foldAnswer_50 rfl ?_
      refine dn_iconst (pc := 51) (v := 3) dX13_foldAnswer_51 rfl ?_
      refine dn_icmp_ne (pc := 52) 59 dX13_foldAnswer_52 rfl (fun _ => ?_) (fun _ => ?_)
      · exact dn_lv [2, 3, 4, 5, 6, 1] rfl (hj59 l0 l1 l2 l3 l4 l5)
      · refine dn_iload_n (pc := 55) 5 dX13_foldAnswer_55 rfl ?_
        refine dn_if_ne (pc := 56) 72 dX13_foldAnswer_56 rfl (fun _ => ?_) (fun _ => ?_)
        · refine dn_iconst (pc := 72) (v := -1) dX13_foldAnswer_72 rfl ?_
          exact dn_ret (Nat.le_of_ble_eq_true rfl) (Nat.le_of_ble_eq_true rfl) rfl dX13_foldAnswer_73
        · exact dn_lv [2, 3, 4, 5, 6, 1] rfl (hj59 l0 l1 l2 l3 l4 l5)
    · refine dn_iconst (pc := 72) (v := -1) dX13_foldAnswer_72 rfl ?_
      exact dn_ret (Nat.le_of_ble_eq_true rfl) (Nat.le_of_ble_eq_true rfl) rfl dX13_foldAnswer_73
  have hj42 : ∀ (l0 : Option Nat) (l1 : Int32) (l2 : Int32) (l3 : Int32) (l4 : Int32) (l5 : Int32), jX13_foldAnswer w x b 42 0 0 [(0, dnV b l0), (1, .int l1), (2, .int l2), (3, .int l3), (4, .int l4), (5, .int l5)] [] (dnB (fX13_foldAnswer_j42 l0 l1 l2 l3 l4 l5) dnP) := by
    intro l0 l1 l2 l3 l4 l5
    unfold fX13_foldAnswer_j42
    refine dn_iconst (pc := 42) (v := 0) dX13_foldAnswer_42 rfl ?_
    exact dn_lv [0, 1, 2, 3, 4, 5] rfl (hj43 l0 l1 l2 l3 l4 l5 false)
  refine dn_iload_n (pc := 0) 1 dX13_foldAnswer_0 rfl ?_
  refine dn_callS0Z (pc := 1) [.int p1]  kRX13_134 (mX13_isGrid w x b p1) rfl rfl (Nat.le_of_ble_eq_true rfl) ⟨(Nat.le_of_ble_eq_true rfl), (Nat.le_of_ble_eq_true rfl)⟩ ⟨rfl, rfl, (Nat.le_of_ble_eq_true rfl), (Nat.le_of_ble_eq_true rfl)⟩ dX13_foldAnswer_1 (fun v15 => ?_)
  refine dn_ifz_eq (pc := 4) 42 dX13_foldAnswer_4 rfl (fun _ => ?_) (fun _ => ?_)
  · refine dn_iload_n (pc := 7) 2 dX13_foldAnswer_7 rfl ?_
    refine dn_iconst (pc := 8) (v := 0) dX13_foldAnswer_8 rfl ?_
    refine dn_iconst (pc := 9) (v := 3) dX13_foldAnswer_9 rfl ?_
    refine dn_callS0Z (pc := 10) [.int p2, .int 0, .int 3]  kRX13_109 (mX13_in w x b p2 0 3) rfl rfl (Nat.le_of_ble_eq_true rfl) ⟨(Nat.le_of_ble_eq_true rfl), (Nat.le_of_ble_eq_true rfl)⟩ ⟨rfl, rfl, (Nat.le_of_ble_eq_true rfl), (Nat.le_of_ble_eq_true rfl)⟩ dX13_foldAnswer_10 (fun v16 => ?_)
    refine dn_ifz_eq (pc := 13) 42 dX13_foldAnswer_13 rfl (fun _ => ?_) (fun _ => ?_)
    · refine dn_iload_n (pc := 16) 3 dX13_foldAnswer_16 rfl ?_
      refine dn_if_lt (pc := 17) 42 dX13_foldAnswer_17 rfl (fun _ => ?_) (fun _ => ?_)
      · exact dn_lv [0, 1, 2, 3, 4, 5] rfl (hj42 r0 p1 p2 p3 p4 p5)
      · refine dn_iload (pc := 20) 4 dX13_foldAnswer_20 rfl ?_
        refine dn_iconst (pc := 22) (v := 0) dX13_foldAnswer_22 rfl ?_
        refine dn_iconst (pc := 23) (v := 4) dX13_foldAnswer_23 rfl ?_
        refine dn_callS0Z (pc := 24) [.int p4, .int 0, .int 4]  kRX13_109 (mX13_in w x b p4 0 4) rfl rfl (Nat.le_of_ble_eq_true rfl) ⟨(Nat.le_of_ble_eq_true rfl), (Nat.le_of_ble_eq_true rfl)⟩ ⟨rfl, rfl, (Nat.le_of_ble_eq_true rfl), (Nat.le_of_ble_eq_true rfl)⟩ dX13_foldAnswer_24 (fun v17 => ?_)
        refine dn_ifz_eq (pc := 27) 42 dX13_foldAnswer_27 rfl (fun _ => ?_) (fun _ => ?_)
        · refine dn_iload (pc := 30) 5 dX13_foldAnswer_30 rfl ?_
          refine dn_callS0Z (pc := 32) [.int p5]  kRX13_379 (mX13_isAs w x b p5) rfl rfl (Nat.le_of_ble_eq_true rfl) ⟨(Nat.le_of_ble_eq_true rfl), (Nat.le_of_ble_eq_true rfl)⟩ ⟨rfl, rfl, (Nat.le_of_ble_eq_true rfl), (Nat.le_of_ble_eq_true rfl)⟩ dX13_foldAnswer_32 (fun v18 => ?_)
          refine dn_ifz_eq (pc := 35) 42 dX13_foldAnswer_35 rfl (fun _ => ?_) (fun _ => ?_)
          · refine dn_iconst (pc := 38) (v := 1) dX13_foldAnswer_38 rfl ?_
            refine dn_goto (pc := 39) 43 dX13_foldAnswer_39 rfl ?_
            exact dn_lv [0, 1, 2, 3, 4, 5] rfl (hj43 r0 p1 p2 p3 p4 p5 true)
          · exact dn_lv [0, 1, 2, 3, 4, 5] rfl (hj42 r0 p1 p2 p3 p4 p5)
        · exact dn_lv [0, 1, 2, 3, 4, 5] rfl (hj42 r0 p1 p2 p3 p4 p5)
    · exact dn_lv [0, 1, 2, 3, 4, 5] rfl (hj42 r0 p1 p2 p3 p4 p5)
  · exact dn_lv [0, 1, 2, 3, 4, 5] rfl (hj42 r0 p1 p2 p3 p4 p5)
abbrev rmX13_fold : Room := { frames := 5, cells := 0, slots := 0, locals := 120 }
def fX13_fold (r0 : Option Nat) (p1 : Int32) (p2 : Int32) (p3 : Int32) (p4 : Int32) (p5 : Int32) : dnM Int32 :=
  dnB (dnCv r0 11 (fX13_foldAnswer r0 p1 p2 p3 p4 p5)) fun v1 =>
  dnB (dnCv r0 11 (fX13_said r0 v1)) fun v2 =>
  dnP v2
abbrev jX13_fold (w : dnWd) (x : dnX) (b : Nat) := dnD w x b (fun _ => True) cX13_fold RX13 6 rmX13_fold "fold" eI
set_option maxHeartbeats 4000000 in
set_option maxRecDepth 100000 in
theorem mX13_fold (w : dnWd) (x : dnX) (b : Nat) (r0 : Option Nat) (p1 : Int32) (p2 : Int32) (p3 : Int32) (p4 : Int32) (p5 : Int32) : dnMt w x b yX13_fold cX13_fold 6 (some .int) rmX13_fold eI [dnV b r0, .int p1, .int p2, .int p3, .int p4, .int p5] (fX13_fold r0 p1 p2 p3 p4 p5) := by
  have hlv : lv_args 0 [dnV b r0, .int p1, .int p2, .int p3, .int p4, .int p5] = [(0, dnV b r0), (1, .int p1), (2, .int p2), (3, .int p3), (4, .int p4), (5, .int p5)] := by cases r0 <;> rfl
  refine dn_mt (by decide +kernel) roI (by cases r0 <;> exact (Nat.le_of_ble_eq_true rfl)) ?_
  rw [hlv]
  refine dn_top ?_
  show jX13_fold w x b 0 0 0 _ [] (dnB _ dnP)
  unfold fX13_fold
  refine dn_aload_n (pc := 0) r0 0 dX13_fold_0 rfl ?_
  refine dn_aload_n (pc := 1) r0 0 dX13_fold_1 rfl ?_
  refine dn_iload_n (pc := 2) 1 dX13_fold_2 rfl ?_
  refine dn_iload_n (pc := 3) 2 dX13_fold_3 rfl ?_
  refine dn_iload_n (pc := 4) 3 dX13_fold_4 rfl ?_
  refine dn_iload (pc := 5) 4 dX13_fold_5 rfl ?_
  refine dn_iload (pc := 7) 5 dX13_fold_7 rfl ?_
  refine dn_callV0I (pc := 9) [.int p1, .int p2, .int p3, .int p4, .int p5] r0 kRX13_400 (mX13_foldAnswer w x b r0 p1 p2 p3 p4 p5) rfl rfl (Nat.le_of_ble_eq_true rfl) ⟨(Nat.le_of_ble_eq_true rfl), (Nat.le_of_ble_eq_true rfl)⟩ ⟨rfl, rfl, (Nat.le_of_ble_eq_true rfl), (Nat.le_of_ble_eq_true rfl)⟩ dX13_fold_9 (fun v1 => ?_)
  refine dn_callV0I (pc := 12) [.int v1] r0 kRX13_137 (mX13_said w x b r0 v1) rfl rfl (Nat.le_of_ble_eq_true rfl) ⟨(Nat.le_of_ble_eq_true rfl), (Nat.le_of_ble_eq_true rfl)⟩ ⟨rfl, rfl, (Nat.le_of_ble_eq_true rfl), (Nat.le_of_ble_eq_true rfl)⟩ dX13_fold_12 (fun v2 => ?_)
  exact dn_ret (Nat.le_of_ble_eq_true rfl) (Nat.le_of_ble_eq_true rfl) rfl dX13_fold_15
abbrev rmX13_forget : Room := { frames := 0, cells := 0, slots := 0, locals := 0 }
def fX13_forget (r0 : Option Nat) : dnM Int32 :=
  dnB (dnGI r0 11 43) fun v1 =>
  dnB (dnPI r0 11 43 0) fun _ =>
  dnP v1
abbrev jX13_forget (w : dnWd) (x : dnX) (b : Nat) := dnD w x b (fun _ => True) cX13_forget RX13 2 rmX13_forget "forget" eI
set_option maxHeartbeats 4000000 in
set_option maxRecDepth 100000 in
theorem mX13_forget (w : dnWd) (x : dnX) (b : Nat) (r0 : Option Nat) : dnMt w x b yX13_forget cX13_forget 2 (some .int) rmX13_forget eI [dnV b r0] (fX13_forget r0) := by
  have hlv : lv_args 0 [dnV b r0] = [(0, dnV b r0)] := by cases r0 <;> rfl
  refine dn_mt (by decide +kernel) roI (by cases r0 <;> exact (Nat.le_of_ble_eq_true rfl)) ?_
  rw [hlv]
  refine dn_top ?_
  show jX13_forget w x b 0 0 0 _ [] (dnB _ dnP)
  unfold fX13_forget
  refine dn_aload_n (pc := 0) r0 0 dX13_forget_0 rfl ?_
  refine dn_getI (pc := 1) r0 lRX13_531 dX13_forget_1 (fun v1 => ?_)
  refine dn_istore_n (pc := 4) dX13_forget_4 (Nat.le_of_ble_eq_true rfl) (dnKp_nb 0 rfl (dn_cat b _) rfl (dnKp_of (lv2 := []) [] rfl rfl)) ?_
  refine dn_aload_n (pc := 5) r0 1 dX13_forget_5 rfl ?_
  refine dn_iconst (pc := 6) (v := 0) dX13_forget_6 rfl ?_
  refine dn_putI (pc := 7) r0 lRX13_531 dX13_forget_7 ?_
  refine dn_iload_n (pc := 10) 0 dX13_forget_10 rfl ?_
  exact dn_ret (Nat.le_of_ble_eq_true rfl) (Nat.le_of_ble_eq_true rfl) rfl dX13_forget_11
