abbrev rmX13_grid : Room := { frames := 2, cells := 0, slots := 0, locals := 46 }
def fX13_grid_j13 (l0 : Option Nat) : dnM Int32 :=
  dnB (dnCv l0 11 (fX13_said l0 (-1))) fun v1 =>
  dnP v1
def fX13_grid (r0 : Option Nat) (p1 : Int32) (p2 : Int32) : dnM Int32 :=
  dnB (fX13_isGrid p1) fun v2 =>
  if v2 = true then
  (if p2 ≤ 6 then
  (if 0 ≤ p2 then
  (dnB (dnCv r0 11 (fX13_anew r0 p1 p2)) fun _ =>
  dnP p2)
  else
  (dnB (dnCv r0 11 (fX13_said r0 (-8))) fun v4 =>
  dnP v4))
  else
  (fX13_grid_j13 r0))
  else
  (fX13_grid_j13 r0)
abbrev jX13_grid (w : dnWd) (x : dnX) (b : Nat) := dnD w x b (fun _ => True) cX13_grid RX13 3 rmX13_grid "grid" eI
set_option maxHeartbeats 4000000 in
set_option maxRecDepth 100000 in
theorem mX13_grid (w : dnWd) (x : dnX) (b : Nat) (r0 : Option Nat) (p1 : Int32) (p2 : Int32) : dnMt w x b yX13_grid cX13_grid 3 (some .int) rmX13_grid eI [dnV b r0, .int p1, .int p2] (fX13_grid r0 p1 p2) := by
  have hlv : lv_args 0 [dnV b r0, .int p1, .int p2] = [(0, dnV b r0), (1, .int p1), (2, .int p2)] := by cases r0 <;> rfl
  refine dn_mt (by decide +kernel) roI (by cases r0 <;> exact (Nat.le_of_ble_eq_true rfl)) ?_
  rw [hlv]
  refine dn_top ?_
  show jX13_grid w x b 0 0 0 _ [] (dnB _ dnP)
  unfold fX13_grid
  have hj13 : ∀ (l0 : Option Nat), jX13_grid w x b 13 0 0 [(0, dnV b l0)] [] (dnB (fX13_grid_j13 l0) dnP) := by
    intro l0
    unfold fX13_grid_j13
    refine dn_aload_n (pc := 13) l0 0 dX13_grid_13 rfl ?_
    refine dn_iconst (pc := 14) (v := -1) dX13_grid_14 rfl ?_
    refine dn_callV0I (pc := 15) [.int (-1)] l0 kRX13_137 (mX13_said w x b l0 (-1)) rfl rfl (Nat.le_of_ble_eq_true rfl) ⟨(Nat.le_of_ble_eq_true rfl), (Nat.le_of_ble_eq_true rfl)⟩ ⟨rfl, rfl, (Nat.le_of_ble_eq_true rfl), (Nat.le_of_ble_eq_true rfl)⟩ dX13_grid_15 (fun v1 => ?_)
    exact dn_ret (Nat.le_of_ble_eq_true rfl) (Nat.le_of_ble_eq_true rfl) rfl dX13_grid_18
  refine dn_iload_n (pc := 0) 1 dX13_grid_0 rfl ?_
  refine dn_callS0Z (pc := 1) [.int p1]  kRX13_134 (mX13_isGrid w x b p1) rfl rfl (Nat.le_of_ble_eq_true rfl) ⟨(Nat.le_of_ble_eq_true rfl), (Nat.le_of_ble_eq_true rfl)⟩ ⟨rfl, rfl, (Nat.le_of_ble_eq_true rfl), (Nat.le_of_ble_eq_true rfl)⟩ dX13_grid_1 (fun v2 => ?_)
  refine dn_ifz_eq (pc := 4) 13 dX13_grid_4 rfl (fun _ => ?_) (fun _ => ?_)
  · refine dn_iload_n (pc := 7) 2 dX13_grid_7 rfl ?_
    refine dn_bipush (pc := 8) (v := 6) dX13_grid_8 rfl ?_
    refine dn_icmp_le (pc := 10) 19 dX13_grid_10 rfl (fun _ => ?_) (fun _ => ?_)
    · refine dn_iload_n (pc := 19) 2 dX13_grid_19 rfl ?_
      refine dn_if_ge (pc := 20) 30 dX13_grid_20 rfl (fun _ => ?_) (fun _ => ?_)
      · refine dn_aload_n (pc := 30) r0 0 dX13_grid_30 rfl ?_
        refine dn_iload_n (pc := 31) 1 dX13_grid_31 rfl ?_
        refine dn_iload_n (pc := 32) 2 dX13_grid_32 rfl ?_
        refine dn_callV0U (pc := 33) [.int p1, .int p2] r0 kRX13_141 (mX13_anew w x b r0 p1 p2) rfl rfl (Nat.le_of_ble_eq_true rfl) ⟨(Nat.le_of_ble_eq_true rfl), (Nat.le_of_ble_eq_true rfl)⟩ ⟨rfl, rfl, (Nat.le_of_ble_eq_true rfl), (Nat.le_of_ble_eq_true rfl)⟩ dX13_grid_33 (fun _ => ?_)
        refine dn_iload_n (pc := 36) 2 dX13_grid_36 rfl ?_
        exact dn_ret (Nat.le_of_ble_eq_true rfl) (Nat.le_of_ble_eq_true rfl) rfl dX13_grid_37
      · refine dn_aload_n (pc := 23) r0 0 dX13_grid_23 rfl ?_
        refine dn_bipush (pc := 24) (v := -8) dX13_grid_24 rfl ?_
        refine dn_callV0I (pc := 26) [.int (-8)] r0 kRX13_137 (mX13_said w x b r0 (-8)) rfl rfl (Nat.le_of_ble_eq_true rfl) ⟨(Nat.le_of_ble_eq_true rfl), (Nat.le_of_ble_eq_true rfl)⟩ ⟨rfl, rfl, (Nat.le_of_ble_eq_true rfl), (Nat.le_of_ble_eq_true rfl)⟩ dX13_grid_26 (fun v4 => ?_)
        exact dn_ret (Nat.le_of_ble_eq_true rfl) (Nat.le_of_ble_eq_true rfl) rfl dX13_grid_29
    · exact dn_lv [0] rfl (hj13 r0)
  · exact dn_lv [0] rfl (hj13 r0)
abbrev rmX13_joins : Room := { frames := 4, cells := 0, slots := 0, locals := 93 }
def fX13_joins (r0 : Option Nat) (p1 : Int32) (p2 : Int32) (p3 : Int32) (p4 : Int32) : dnM Bool :=
  dnB (dnGR r0 11 26) fun v1 =>
  dnB (dnAI v1 100 p3) fun v2 =>
  if ¬ v2 = p4 then
  (dnP false)
  else
  (dnB (dnNz 12) fun _ =>
  dnB (dnNz 12) fun _ =>
  dnB (dnCv r0 11 (fX13_hasCell r0 p1 (p2 / 12) (p2 - p2 / 12 * 12))) fun v3 =>
  if v3 = true then
  (dnB (dnCv r0 11 (fX13_cellAt r0 p1 p3)) fun v4 =>
  dnB (dnCv r0 11 (fX13_cellAt r0 p1 p2)) fun v5 =>
  dnB (dnCv r0 11 (fX13_cellsLike r0 v4 v5)) fun v6 =>
  if v6 = true then
  (dnP true)
  else
  (dnP false))
  else
  (dnP false))
abbrev jX13_joins (w : dnWd) (x : dnX) (b : Nat) := dnD w x b (fun _ => True) cX13_joins RX13 5 rmX13_joins "joins" eZ
set_option maxHeartbeats 4000000 in
set_option maxRecDepth 100000 in
theorem mX13_joins (w : dnWd) (x : dnX) (b : Nat) (r0 : Option Nat) (p1 : Int32) (p2 : Int32) (p3 : Int32) (p4 : Int32) : dnMt w x b yX13_joins cX13_joins 5 (some .boolean) rmX13_joins eZ [dnV b r0, .int p1, .int p2, .int p3, .int p4] (fX13_joins r0 p1 p2 p3 p4) := by
  have hlv : lv_args 0 [dnV b r0, .int p1, .int p2, .int p3, .int p4] = [(0, dnV b r0), (1, .int p1), (2, .int p2), (3, .int p3), (4, .int p4)] := by cases r0 <;> rfl
  refine dn_mt (by decide +kernel) roZ (by cases r0 <;> exact (Nat.le_of_ble_eq_true rfl)) ?_
  rw [hlv]
  refine dn_top ?_
  show jX13_joins w x b 0 0 0 _ [] (dnB _ dnP)
  unfold fX13_joins
  refine dn_aload_n (pc := 0) r0 0 dX13_joins_0 rfl ?_
  refine dn_getR (pc := 1) r0 lRX13_67 dX13_joins_1 (fun v1 => ?_)
  refine dn_iload_n (pc := 4) 3 dX13_joins_4 rfl ?_
  refine dn_iald (pc := 5) v1 dX13_joins_5 (fun v2 => ?_)
  refine dn_iload (pc := 6) 4 dX13_joins_6 rfl ?_
  refine dn_icmp_ne (pc := 8) 50 dX13_joins_8 rfl (fun _ => ?_) (fun _ => ?_)
  · refine dn_iconst (pc := 50) (v := 0) dX13_joins_50 rfl ?_
    exact dn_ret (Nat.le_of_ble_eq_true rfl) (Nat.le_of_ble_eq_true rfl) rfl dX13_joins_51
  · refine dn_aload_n (pc := 11) r0 0 dX13_joins_11 rfl ?_
    refine dn_iload_n (pc := 12) 1 dX13_joins_12 rfl ?_
    refine dn_iload_n (pc := 13) 2 dX13_joins_13 rfl ?_
    refine dn_bipush (pc := 14) (v := 12) dX13_joins_14 rfl ?_
    refine dn_idiv (pc := 16) dX13_joins_16 ?_
    refine dn_iload_n (pc := 17) 2 dX13_joins_17 rfl ?_
    refine dn_bipush (pc := 18) (v := 12) dX13_joins_18 rfl ?_
    refine dn_irem (pc := 20) dX13_joins_20 ?_
    refine dn_callV0Z (pc := 21) [.int p1, .int (p2 / 12), .int (p2 - p2 / 12 * 12)] r0 kRX13_348 (mX13_hasCell w x b r0 p1 (p2 / 12) (p2 - p2 / 12 * 12)) rfl rfl (Nat.le_of_ble_eq_true rfl) ⟨(Nat.le_of_ble_eq_true rfl), (Nat.le_of_ble_eq_true rfl)⟩ ⟨rfl, rfl, (Nat.le_of_ble_eq_true rfl), (Nat.le_of_ble_eq_true rfl)⟩ dX13_joins_21 (fun v3 => ?_)
    refine dn_ifz_eq (pc := 24) 50 dX13_joins_24 rfl (fun _ => ?_) (fun _ => ?_)
    · refine dn_aload_n (pc := 27) r0 0 dX13_joins_27 rfl ?_
      refine dn_aload_n (pc := 28) r0 0 dX13_joins_28 rfl ?_
      refine dn_iload_n (pc := 29) 1 dX13_joins_29 rfl ?_
      refine dn_iload_n (pc := 30) 3 dX13_joins_30 rfl ?_
      refine dn_callV0I (pc := 31) [.int p1, .int p3] r0 kRX13_413 (mX13_cellAt w x b r0 p1 p3) rfl rfl (Nat.le_of_ble_eq_true rfl) ⟨(Nat.le_of_ble_eq_true rfl), (Nat.le_of_ble_eq_true rfl)⟩ ⟨rfl, rfl, (Nat.le_of_ble_eq_true rfl), (Nat.le_of_ble_eq_true rfl)⟩ dX13_joins_31 (fun v4 => ?_)
      refine dn_aload_n (pc := 34) r0 0 dX13_joins_34 rfl ?_
      refine dn_iload_n (pc := 35) 1 dX13_joins_35 rfl ?_
      refine dn_iload_n (pc := 36) 2 dX13_joins_36 rfl ?_
      refine dn_callV0I (pc := 37) [.int p1, .int p2] r0 kRX13_413 (mX13_cellAt w x b r0 p1 p2) rfl rfl (Nat.le_of_ble_eq_true rfl) ⟨(Nat.le_of_ble_eq_true rfl), (Nat.le_of_ble_eq_true rfl)⟩ ⟨rfl, rfl, (Nat.le_of_ble_eq_true rfl), (Nat.le_of_ble_eq_true rfl)⟩ dX13_joins_37 (fun v5 => ?_)
      refine dn_callV0Z (pc := 40) [.int v4, .int v5] r0 kRX13_274 (mX13_cellsLike w x b r0 v4 v5) rfl rfl (Nat.le_of_ble_eq_true rfl) ⟨(Nat.le_of_ble_eq_true rfl), (Nat.le_of_ble_eq_true rfl)⟩ ⟨rfl, rfl, (Nat.le_of_ble_eq_true rfl), (Nat.le_of_ble_eq_true rfl)⟩ dX13_joins_40 (fun v6 => ?_)
      refine dn_ifz_eq (pc := 43) 50 dX13_joins_43 rfl (fun _ => ?_) (fun _ => ?_)
      · refine dn_iconst (pc := 46) (v := 1) dX13_joins_46 rfl ?_
        refine dn_goto (pc := 47) 51 dX13_joins_47 rfl ?_
        exact dn_ret (Nat.le_of_ble_eq_true rfl) (Nat.le_of_ble_eq_true rfl) rfl dX13_joins_51
      · refine dn_iconst (pc := 50) (v := 0) dX13_joins_50 rfl ?_
        exact dn_ret (Nat.le_of_ble_eq_true rfl) (Nat.le_of_ble_eq_true rfl) rfl dX13_joins_51
    · refine dn_iconst (pc := 50) (v := 0) dX13_joins_50 rfl ?_
      exact dn_ret (Nat.le_of_ble_eq_true rfl) (Nat.le_of_ble_eq_true rfl) rfl dX13_joins_51
abbrev rmX13_isBeside : Room := { frames := 5, cells := 0, slots := 0, locals := 117 }
def fX13_isBeside_j120 : dnM Bool :=
  dnP true
def fX13_isBeside_j93 (l0 : Option Nat) (l1 : Int32) (l2 : Int32) (l3 : Int32) (s0 : Bool) : dnM Bool :=
  if s0 = true then
  (fX13_isBeside_j120)
  else
  (if 60 ≤ l2 then
  (dnP false)
  else
  (dnB (dnCv l0 11 (fX13_joins l0 l1 l2 (l2 + 12) l3)) fun v1 =>
  if v1 = true then
  (fX13_isBeside_j120)
  else
  (dnP false)))
def fX13_isBeside_j92 (l0 : Option Nat) (l1 : Int32) (l2 : Int32) (l3 : Int32) : dnM Bool :=
  fX13_isBeside_j93 l0 l1 l2 l3 false
def fX13_isBeside_j88 (l0 : Option Nat) (l1 : Int32) (l2 : Int32) (l3 : Int32) : dnM Bool :=
  fX13_isBeside_j93 l0 l1 l2 l3 true
def fX13_isBeside_j61 (l0 : Option Nat) (l1 : Int32) (l2 : Int32) (l3 : Int32) (s0 : Bool) : dnM Bool :=
  if s0 = true then
  (fX13_isBeside_j88 l0 l1 l2 l3)
  else
  (if l2 < 12 then
  (fX13_isBeside_j92 l0 l1 l2 l3)
  else
  (dnB (dnCv l0 11 (fX13_joins l0 l1 l2 (l2 - 12) l3)) fun v2 =>
  if v2 = true then
  (fX13_isBeside_j88 l0 l1 l2 l3)
  else
  (fX13_isBeside_j92 l0 l1 l2 l3)))
def fX13_isBeside_j60 (l0 : Option Nat) (l1 : Int32) (l2 : Int32) (l3 : Int32) : dnM Bool :=
  fX13_isBeside_j61 l0 l1 l2 l3 false
def fX13_isBeside_j56 (l0 : Option Nat) (l1 : Int32) (l2 : Int32) (l3 : Int32) : dnM Bool :=
  fX13_isBeside_j61 l0 l1 l2 l3 true
def fX13_isBeside_j29 (l0 : Option Nat) (l1 : Int32) (l2 : Int32) (l3 : Int32) (l4 : Int32) (s0 : Bool) : dnM Bool :=
  if s0 = true then
  (fX13_isBeside_j56 l0 l1 l2 l3)
  else
  (if 11 ≤ l4 then
  (fX13_isBeside_j60 l0 l1 l2 l3)
  else
  (dnB (dnCv l0 11 (fX13_joins l0 l1 l2 (l2 + 1) l3)) fun v3 =>
  if v3 = true then
  (fX13_isBeside_j56 l0 l1 l2 l3)
  else
  (fX13_isBeside_j60 l0 l1 l2 l3)))
def fX13_isBeside_j28 (l0 : Option Nat) (l1 : Int32) (l2 : Int32) (l3 : Int32) (l4 : Int32) : dnM Bool :=
  fX13_isBeside_j29 l0 l1 l2 l3 l4 false
def fX13_isBeside (r0 : Option Nat) (p1 : Int32) (p2 : Int32) (p3 : Int32) : dnM Bool :=
  dnB (dnNz 12) fun _ =>
  if (p2 - p2 / 12 * 12) ≤ 0 then
  (fX13_isBeside_j28 r0 p1 p2 p3 (p2 - p2 / 12 * 12))
  else
  (dnB (dnCv r0 11 (fX13_joins r0 p1 p2 (p2 - 1) p3)) fun v4 =>
  if v4 = true then
  (fX13_isBeside_j29 r0 p1 p2 p3 (p2 - p2 / 12 * 12) true)
  else
  (fX13_isBeside_j28 r0 p1 p2 p3 (p2 - p2 / 12 * 12)))
abbrev jX13_isBeside (w : dnWd) (x : dnX) (b : Nat) := dnD w x b (fun _ => True) cX13_isBeside RX13 6 rmX13_isBeside "isBeside" eZ
set_option maxHeartbeats 4000000 in
set_option maxRecDepth 100000 in
theorem mX13_isBeside (w : dnWd) (x : dnX) (b : Nat) (r0 : Option Nat) (p1 : Int32) (p2 : Int32) (p3 : Int32) : dnMt w x b yX13_isBeside cX13_isBeside 6 (some .boolean) rmX13_isBeside eZ [dnV b r0, .int p1, .int p2, .int p3] (fX13_isBeside r0 p1 p2 p3) := by
  have hlv : lv_args 0 [dnV b r0, .int p1, .int p2, .int p3] = [(0, dnV b r0), (1, .int p1), (2, .int p2), (3, .int p3)] := by cases r0 <;> rfl
  refine dn_mt (by decide +kernel) roZ (by cases r0 <;> exact (Nat.le_of_ble_eq_true rfl)) ?_
  rw [hlv]
  refine dn_top ?_
  show jX13_isBeside w x b 0 0 0 _ [] (dnB _ dnP)
  unfold fX13_isBeside
  have hj120 : jX13_isBeside w x b 120 0 0 [] [] (dnB (fX13_isBeside_j120) dnP) := by
    unfold fX13_isBeside_j120
    refine dn_iconst (pc := 120) (v := 1) dX13_isBeside_120 rfl ?_
    refine dn_goto (pc := 121) 125 dX13_isBeside_121 rfl ?_
    exact dn_ret (Nat.le_of_ble_eq_true rfl) (Nat.le_of_ble_eq_true rfl) rfl dX13_isBeside_125
  have hj93 : ∀ (l0 : Option Nat) (l1 : Int32) (l2 : Int32) (l3 : Int32) (s0 : Bool), jX13_isBeside w x b 93 0 0 [(0, dnV b l0), (1, .int l1), (2, .int l2), (3, .int l3)] [.int (dnZ s0)] (dnB (fX13_isBeside_j93 l0 l1 l2 l3 s0) dnP) := by
    intro l0 l1 l2 l3 s0
    unfold fX13_isBeside_j93
    refine dn_istore (pc := 93) dX13_isBeside_93 (Nat.le_of_ble_eq_true rfl) (dnKp_of (lv2 := [(0, dnV b l0), (1, .int l1), (2, .int l2), (3, .int l3)]) [0, 1, 2, 3] rfl rfl) ?_
    refine dn_iload (pc := 95) 0 dX13_isBeside_95 rfl ?_
    refine dn_ifz_ne (pc := 97) 120 dX13_isBeside_97 rfl (fun _ => ?_) (fun _ => ?_)
    · exact dn_lv [] rfl (hj120)
    · refine dn_iload_n (pc := 100) 3 dX13_isBeside_100 rfl ?_
      refine dn_bipush (pc := 101) (v := 60) dX13_isBeside_101 rfl ?_
      refine dn_icmp_ge (pc := 103) 124 dX13_isBeside_103 rfl (fun _ => ?_) (fun _ => ?_)
      · refine dn_iconst (pc := 124) (v := 0) dX13_isBeside_124 rfl ?_
        exact dn_ret (Nat.le_of_ble_eq_true rfl) (Nat.le_of_ble_eq_true rfl) rfl dX13_isBeside_125
      · refine dn_aload_n (pc := 106) l0 1 dX13_isBeside_106 rfl ?_
        refine dn_iload_n (pc := 107) 2 dX13_isBeside_107 rfl ?_
        refine dn_iload_n (pc := 108) 3 dX13_isBeside_108 rfl ?_
        refine dn_iload_n (pc := 109) 3 dX13_isBeside_109 rfl ?_
        refine dn_bipush (pc := 110) (v := 12) dX13_isBeside_110 rfl ?_
        refine dn_iadd (pc := 112) dX13_isBeside_112 ?_
        refine dn_iload_n (pc := 113) 4 dX13_isBeside_113 rfl ?_
        refine dn_callV0Z (pc := 114) [.int l1, .int l2, .int (l2 + 12), .int l3] l0 kRX13_416 (mX13_joins w x b l0 l1 l2 (l2 + 12) l3) rfl rfl (Nat.le_of_ble_eq_true rfl) ⟨(Nat.le_of_ble_eq_true rfl), (Nat.le_of_ble_eq_true rfl)⟩ ⟨rfl, rfl, (Nat.le_of_ble_eq_true rfl), (Nat.le_of_ble_eq_true rfl)⟩ dX13_isBeside_114 (fun v1 => ?_)
        refine dn_ifz_eq (pc := 117) 124 dX13_isBeside_117 rfl (fun _ => ?_) (fun _ => ?_)
        · exact dn_lv [] rfl (hj120)
        · refine dn_iconst (pc := 124) (v := 0) dX13_isBeside_124 rfl ?_
          exact dn_ret (Nat.le_of_ble_eq_true rfl) (Nat.le_of_ble_eq_true rfl) rfl dX13_isBeside_125
  have hj92 : ∀ (l0 : Option Nat) (l1 : Int32) (l2 : Int32) (l3 : Int32), jX13_isBeside w x b 92 0 0 [(0, dnV b l0), (1, .int l1), (2, .int l2), (3, .int l3)] [] (dnB (fX13_isBeside_j92 l0 l1 l2 l3) dnP) := by
    intro l0 l1 l2 l3
    unfold fX13_isBeside_j92
    refine dn_iconst (pc := 92) (v := 0) dX13_isBeside_92 rfl ?_
    exact dn_lv [0, 1, 2, 3] rfl (hj93 l0 l1 l2 l3 false)
  have hj88 : ∀ (l0 : Option Nat) (l1 : Int32) (l2 : Int32) (l3 : Int32), jX13_isBeside w x b 88 0 0 [(0, dnV b l0), (1, .int l1), (2, .int l2), (3, .int l3)] [] (dnB (fX13_isBeside_j88 l0 l1 l2 l3) dnP) := by
    intro l0 l1 l2 l3
    unfold fX13_isBeside_j88
    refine dn_iconst (pc := 88) (v := 1) dX13_isBeside_88 rfl ?_
    refine dn_goto (pc := 89) 93 dX13_isBeside_89 rfl ?_
    exact dn_lv [0, 1, 2, 3] rfl (hj93 l0 l1 l2 l3 true)
  have hj61 : ∀ (l0 : Option Nat) (l1 : Int32) (l2 : Int32) (l3 : Int32) (s0 : Bool), jX13_isBeside w x b 61 0 0 [(0, dnV b l0), (1, .int l1), (2, .int l2), (3, .int l3)] [.int (dnZ s0)] (dnB (fX13_isBeside_j61 l0 l1 l2 l3 s0) dnP) := by
    intro l0 l1 l2 l3 s0
    unfold fX13_isBeside_j61
    refine dn_istore (pc := 61) dX13_isBeside_61 (Nat.le_of_ble_eq_true rfl) (dnKp_of (lv2 := [(0, dnV b l0), (1, .int l1), (2, .int l2), (3, .int l3)]) [0, 1, 2, 3] rfl rfl) ?_
    refine dn_iload (pc := 63) 0 dX13_isBeside_63 rfl ?_
    refine dn_ifz_ne (pc := 65) 88 dX13_isBeside_65 rfl (fun _ => ?_) (fun _ => ?_)
    · exact dn_lv [1, 2, 3, 4] rfl (hj88 l0 l1 l2 l3)
    · refine dn_iload_n (pc := 68) 3 dX13_isBeside_68 rfl ?_
      refine dn_bipush (pc := 69) (v := 12) dX13_isBeside_69 rfl ?_
      refine dn_icmp_lt (pc := 71) 92 dX13_isBeside_71 rfl (fun _ => ?_) (fun _ => ?_)
      · exact dn_lv [1, 2, 3, 4] rfl (hj92 l0 l1 l2 l3)
      · refine dn_aload_n (pc := 74) l0 1 dX13_isBeside_74 rfl ?_
        refine dn_iload_n (pc := 75) 2 dX13_isBeside_75 rfl ?_
        refine dn_iload_n (pc := 76) 3 dX13_isBeside_76 rfl ?_
        refine dn_iload_n (pc := 77) 3 dX13_isBeside_77 rfl ?_
        refine dn_bipush (pc := 78) (v := 12) dX13_isBeside_78 rfl ?_
        refine dn_isub (pc := 80) dX13_isBeside_80 ?_
        refine dn_iload_n (pc := 81) 4 dX13_isBeside_81 rfl ?_
        refine dn_callV0Z (pc := 82) [.int l1, .int l2, .int (l2 - 12), .int l3] l0 kRX13_416 (mX13_joins w x b l0 l1 l2 (l2 - 12) l3) rfl rfl (Nat.le_of_ble_eq_true rfl) ⟨(Nat.le_of_ble_eq_true rfl), (Nat.le_of_ble_eq_true rfl)⟩ ⟨rfl, rfl, (Nat.le_of_ble_eq_true rfl), (Nat.le_of_ble_eq_true rfl)⟩ dX13_isBeside_82 (fun v2 => ?_)
        refine dn_ifz_eq (pc := 85) 92 dX13_isBeside_85 rfl (fun _ => ?_) (fun _ => ?_)
        · exact dn_lv [1, 2, 3, 4] rfl (hj88 l0 l1 l2 l3)
        · exact dn_lv [1, 2, 3, 4] rfl (hj92 l0 l1 l2 l3)
  have hj60 : ∀ (l0 : Option Nat) (l1 : Int32) (l2 : Int32) (l3 : Int32), jX13_isBeside w x b 60 0 0 [(0, dnV b l0), (1, .int l1), (2, .int l2), (3, .int l3)] [] (dnB (fX13_isBeside_j60 l0 l1 l2 l3) dnP) := by
    intro l0 l1 l2 l3
    unfold fX13_isBeside_j60
    refine dn_iconst (pc := 60) (v := 0) dX13_isBeside_60 rfl ?_
    exact dn_lv [0, 1, 2, 3] rfl (hj61 l0 l1 l2 l3 false)
  have hj56 : ∀ (l0 : Option Nat) (l1 : Int32) (l2 : Int32) (l3 : Int32), jX13_isBeside w x b 56 0 0 [(0, dnV b l0), (1, .int l1), (2, .int l2), (3, .int l3)] [] (dnB (fX13_isBeside_j56 l0 l1 l2 l3) dnP) := by
    intro l0 l1 l2 l3
    unfold fX13_isBeside_j56
    refine dn_iconst (pc := 56) (v := 1) dX13_isBeside_56 rfl ?_
    refine dn_goto (pc := 57) 61 dX13_isBeside_57 rfl ?_
    exact dn_lv [0, 1, 2, 3] rfl (hj61 l0 l1 l2 l3 true)
  have hj29 : ∀ (l0 : Option Nat) (l1 : Int32) (l2 : Int32) (l3 : Int32) (l4 : Int32) (s0 : Bool), jX13_isBeside w x b 29 0 0 [(0, dnV b l0), (1, .int l1), (2, .int l2), (3, .int l3), (4, .int l4)] [.int (dnZ s0)] (dnB (fX13_isBeside_j29 l0 l1 l2 l3 l4 s0) dnP) := by
    intro l0 l1 l2 l3 l4 s0
    unfold fX13_isBeside_j29
    refine dn_istore (pc := 29) dX13_isBeside_29 (Nat.le_of_ble_eq_true rfl) (dnKp_nb 4 rfl rfl rfl (dnKp_of (lv2 := [(0, dnV b l0), (1, .int l1), (2, .int l2), (3, .int l3)]) [0, 1, 2, 3] rfl rfl)) ?_
    refine dn_iload (pc := 31) 0 dX13_isBeside_31 rfl ?_
    refine dn_ifz_ne (pc := 33) 56 dX13_isBeside_33 rfl (fun _ => ?_) (fun _ => ?_)
    · exact dn_lv [2, 3, 4, 5] rfl (hj56 l0 l1 l2 l3)
    · refine dn_iload (pc := 36) 1 dX13_isBeside_36 rfl ?_
      refine dn_bipush (pc := 38) (v := 11) dX13_isBeside_38 rfl ?_
      refine dn_icmp_ge (pc := 40) 60 dX13_isBeside_40 rfl (fun _ => ?_) (fun _ => ?_)
      · exact dn_lv [2, 3, 4, 5] rfl (hj60 l0 l1 l2 l3)
      · refine dn_aload_n (pc := 43) l0 2 dX13_isBeside_43 rfl ?_
        refine dn_iload_n (pc := 44) 3 dX13_isBeside_44 rfl ?_
        refine dn_iload_n (pc := 45) 4 dX13_isBeside_45 rfl ?_
        refine dn_iload_n (pc := 46) 4 dX13_isBeside_46 rfl ?_
        refine dn_iconst (pc := 47) (v := 1) dX13_isBeside_47 rfl ?_
        refine dn_iadd (pc := 48) dX13_isBeside_48 ?_
        refine dn_iload_n (pc := 49) 5 dX13_isBeside_49 rfl ?_
        refine dn_callV0Z (pc := 50) [.int l1, .int l2, .int (l2 + 1), .int l3] l0 kRX13_416 (mX13_joins w x b l0 l1 l2 (l2 + 1) l3) rfl rfl (Nat.le_of_ble_eq_true rfl) ⟨(Nat.le_of_ble_eq_true rfl), (Nat.le_of_ble_eq_true rfl)⟩ ⟨rfl, rfl, (Nat.le_of_ble_eq_true rfl), (Nat.le_of_ble_eq_true rfl)⟩ dX13_isBeside_50 (fun v3 => ?_)
        refine dn_ifz_eq (pc := 53) 60 dX13_isBeside_53 rfl (fun _ => ?_) (fun _ => ?_)
        · exact dn_lv [2, 3, 4, 5] rfl (hj56 l0 l1 l2 l3)
        · exact dn_lv [2, 3, 4, 5] rfl (hj60 l0 l1 l2 l3)
  have hj28 : ∀ (l0 : Option Nat) (l1 : Int32) (l2 : Int32) (l3 : Int32) (l4 : Int32), jX13_isBeside w x b 28 0 0 [(0, dnV b l0), (1, .int l1), (2, .int l2), (3, .int l3), (4, .int l4)] [] (dnB (fX13_isBeside_j28 l0 l1 l2 l3 l4) dnP) := by
    intro l0 l1 l2 l3 l4
    unfold fX13_isBeside_j28
    refine dn_iconst (pc := 28) (v := 0) dX13_isBeside_28 rfl ?_
    exact dn_lv [0, 1, 2, 3, 4] rfl (hj29 l0 l1 l2 l3 l4 false)
  refine dn_iload_n (pc := 0) 2 dX13_isBeside_0 rfl ?_
  refine dn_bipush (pc := 1) (v := 12) dX13_isBeside_1 rfl ?_
  refine dn_irem (pc := 3) dX13_isBeside_3 ?_
  refine dn_istore (pc := 4) dX13_isBeside_4 (Nat.le_of_ble_eq_true rfl) (dnKp_nb 3 rfl rfl rfl (dnKp_of (lv2 := [(0, dnV b r0), (1, .int p1), (2, .int p2)]) [0, 1, 2] rfl rfl)) ?_
  refine dn_iload (pc := 6) 0 dX13_isBeside_6 rfl ?_
  refine dn_if_le (pc := 8) 28 dX13_isBeside_8 rfl (fun _ => ?_) (fun _ => ?_)
  · exact dn_lv [2, 3, 4, 1, 0] rfl (hj28 r0 p1 p2 p3 (p2 - p2 / 12 * 12))
  · refine dn_aload_n (pc := 11) r0 2 dX13_isBeside_11 rfl ?_
    refine dn_iload_n (pc := 12) 3 dX13_isBeside_12 rfl ?_
    refine dn_iload_n (pc := 13) 4 dX13_isBeside_13 rfl ?_
    refine dn_iload_n (pc := 14) 4 dX13_isBeside_14 rfl ?_
    refine dn_iconst (pc := 15) (v := 1) dX13_isBeside_15 rfl ?_
    refine dn_isub (pc := 16) dX13_isBeside_16 ?_
    refine dn_iload_n (pc := 17) 1 dX13_isBeside_17 rfl ?_
    refine dn_callV0Z (pc := 18) [.int p1, .int p2, .int (p2 - 1), .int p3] r0 kRX13_416 (mX13_joins w x b r0 p1 p2 (p2 - 1) p3) rfl rfl (Nat.le_of_ble_eq_true rfl) ⟨(Nat.le_of_ble_eq_true rfl), (Nat.le_of_ble_eq_true rfl)⟩ ⟨rfl, rfl, (Nat.le_of_ble_eq_true rfl), (Nat.le_of_ble_eq_true rfl)⟩ dX13_isBeside_18 (fun v4 => ?_)
    refine dn_ifz_eq (pc := 21) 28 dX13_isBeside_21 rfl (fun _ => ?_) (fun _ => ?_)
    · refine dn_iconst (pc := 24) (v := 1) dX13_isBeside_24 rfl ?_
      refine dn_goto (pc := 25) 29 dX13_isBeside_25 rfl ?_
      exact dn_lv [2, 3, 4, 1, 0] rfl (hj29 r0 p1 p2 p3 (p2 - p2 / 12 * 12) true)
    · exact dn_lv [2, 3, 4, 1, 0] rfl (hj28 r0 p1 p2 p3 (p2 - p2 / 12 * 12))
abbrev rmX13_grows : Room := { frames := 6, cells := 0, slots := 0, locals := 142 }
def fX13_grows_j66 (l0 : Option Nat) (l1 : Int32) (l3 : Int32) (l4 : Int32) (l5 : Bool) (l6 : Int32) : dnM ((Int32 × Bool × Int32) ⊕ (Int32 × Bool)) :=
  dnP (.inl (l4, l5, (l6 + 1)))
def fX13_grows_b24 (c0 : Option Nat) (c1 : Int32) (c3 : Int32) (s24 : Int32 × Bool × Int32) : dnM ((Int32 × Bool × Int32) ⊕ (Int32 × Bool)) :=
  if 72 ≤ s24.2.2 then
  (dnP (.inr (s24.1, s24.2.1)))
  else
  (dnB (dnGR c0 11 26) fun v2 =>
  dnB (dnAI v2 100 s24.2.2) fun v3 =>
  if ¬ v3 = 0 then
  (fX13_grows_j66 c0 c1 c3 s24.1 s24.2.1 s24.2.2)
  else
  (dnB (dnCv c0 11 (fX13_isBeside c0 c1 s24.2.2 c3)) fun v4 =>
  if v4 = true then
  (dnB (dnGR c0 11 26) fun v5 =>
  dnB (dnTI v5 100 s24.2.2 c3) fun _ =>
  fX13_grows_j66 c0 c1 c3 (s24.1 + 1) true s24.2.2)
  else
  (fX13_grows_j66 c0 c1 c3 s24.1 s24.2.1 s24.2.2)))
def fX13_grows_b13 (c0 : Option Nat) (c1 : Int32) (c3 : Int32) (s13 : Int32 × Bool) : dnM ((Int32 × Bool) ⊕ (Int32)) :=
  if s13.2 = true then
  (dnB (dnIt 1000 (fX13_grows_b24 c0 c1 c3) (s13.1, false, 0)) fun q24 =>
  dnP (.inl (q24.1, q24.2)))
  else
  (dnP (.inr s13.1))
def fX13_grows (r0 : Option Nat) (p1 : Int32) (p2 : Int32) (p3 : Int32) : dnM Int32 :=
  dnB (dnGR r0 11 26) fun v1 =>
  dnB (dnTI v1 100 p2 p3) fun _ =>
  dnB (dnIt 1000 (fX13_grows_b13 r0 p1 p3) (1, true)) fun q13 =>
  dnP q13
abbrev jX13_grows (w : dnWd) (x : dnX) (b : Nat) := dnD w x b (fun _ => True) cX13_grows RX13 7 rmX13_grows "grows" eI
set_option maxHeartbeats 4000000 in
set_option maxRecDepth 100000 in
theorem mX13_grows (w : dnWd) (x : dnX) (b : Nat) (r0 : Option Nat) (p1 : Int32) (p2 : Int32) (p3 : Int32) : dnMt w x b yX13_grows cX13_grows 7 (some .int) rmX13_grows eI [dnV b r0, .int p1, .int p2, .int p3] (fX13_grows r0 p1 p2 p3) := by
  have hlv : lv_args 0 [dnV b r0, .int p1, .int p2, .int p3] = [(0, dnV b r0), (1, .int p1), (2, .int p2), (3, .int p3)] := by cases r0 <;> rfl
  refine dn_mt (by decide +kernel) roI (by cases r0 <;> exact (Nat.le_of_ble_eq_true rfl)) ?_
  rw [hlv]
  refine dn_top ?_
  show jX13_grows w x b 0 0 0 _ [] (dnB _ dnP)
  unfold fX13_grows
  refine dn_aload_n (pc := 0) r0 0 dX13_grows_0 rfl ?_
  refine dn_getR (pc := 1) r0 lRX13_67 dX13_grows_1 (fun v1 => ?_)
  refine dn_iload_n (pc := 4) 2 dX13_grows_4 rfl ?_
  refine dn_iload_n (pc := 5) 3 dX13_grows_5 rfl ?_
  refine dn_iast (pc := 6) v1 dX13_grows_6 ?_
  refine dn_iconst (pc := 7) (v := 1) dX13_grows_7 rfl ?_
  refine dn_istore (pc := 8) dX13_grows_8 (Nat.le_of_ble_eq_true rfl) (dnKp_nb 3 rfl rfl rfl (dnKp_of (lv2 := [(0, dnV b r0), (1, .int p1)]) [0, 1] rfl rfl)) ?_
  refine dn_iconst (pc := 10) (v := 1) dX13_grows_10 rfl ?_
  refine dn_istore (pc := 11) dX13_grows_11 (Nat.le_of_ble_eq_true rfl) (dnKp_nb 0 rfl rfl rfl (dnKp_of (lv2 := [(3, .int p3), (0, dnV b r0), (1, .int p1)]) [1, 2, 3] rfl rfl)) ?_
  refine dn_assoc ?_
  refine dn_lv [3, 4, 2, 1, 0] (lv2 := (fun s => [(0, dnV b r0), (1, .int p1), (3, .int p3), (4, .int s.1), (5, .int (dnZ s.2))]) (1, true)) rfl ?_
  refine dn_loopE (pc := 13) (body := fX13_grows_b13 r0 p1 p3) 75 (fun s => [(0, dnV b r0), (1, .int p1), (3, .int p3), (4, .int s.1), (5, .int (dnZ s.2))]) (fun q => [(4, .int q)]) (fun s13 K13 E13 hK13 hE13 => ?_) (fun q13 => ?_) 1000 (1, true)
  · unfold fX13_grows_b13
    refine dn_iload (pc := 13) 4 dX13_grows_13 rfl ?_
    refine dn_ifz_eq (pc := 15) 75 dX13_grows_15 rfl (fun _ => ?_) (fun _ => ?_)
    · refine dn_iconst (pc := 18) (v := 0) dX13_grows_18 rfl ?_
      refine dn_istore (pc := 19) dX13_grows_19 (Nat.le_of_ble_eq_true rfl) (dnKp_nb 3 rfl rfl rfl (dnKp_of (lv2 := [(0, dnV b r0), (1, .int p1), (3, .int p3)]) [0, 1, 2] rfl rfl)) ?_
      refine dn_iconst (pc := 21) (v := 0) dX13_grows_21 rfl ?_
      refine dn_istore (pc := 22) dX13_grows_22 (Nat.le_of_ble_eq_true rfl) (dnKp_nb 0 rfl rfl rfl (dnKp_of (lv2 := [(4, .int s13.1), (0, dnV b r0), (1, .int p1), (3, .int p3)]) [1, 2, 3, 4] rfl rfl)) ?_
      refine dn_assoc ?_
      refine dn_lv [3, 4, 5, 2, 1, 0] (lv2 := (fun s => [(0, dnV b r0), (1, .int p1), (3, .int p3), (4, .int s.1), (5, .int (dnZ s.2.1)), (6, .int s.2.2)]) (s13.1, false, 0)) rfl ?_
      refine dn_loopE (pc := 24) (body := fX13_grows_b24 r0 p1 p3) 72 (fun s => [(0, dnV b r0), (1, .int p1), (3, .int p3), (4, .int s.1), (5, .int (dnZ s.2.1)), (6, .int s.2.2)]) (fun q => [(0, dnV b r0), (1, .int p1), (3, .int p3), (4, .int q.1), (5, .int (dnZ q.2))]) (fun s24 K24 E24 hK24 hE24 => ?_) (fun q24 => ?_) 1000 (s13.1, false, 0)
      · unfold fX13_grows_b24
        have hj66 : ∀ (l4 : Int32) (l5 : Bool) (l6 : Int32), jX13_grows w x b 66 0 0 [(0, dnV b r0), (1, .int p1), (3, .int p3), (4, .int l4), (5, .int (dnZ l5)), (6, .int l6)] [] (dnB (fX13_grows_j66 r0 p1 p3 l4 l5 l6) (dnKo K24 E24)) := by
          intro l4 l5 l6
          unfold fX13_grows_j66
          refine dn_iinc (pc := 66) (l6 + 1) 5 dX13_grows_66 rfl rfl (Nat.le_of_ble_eq_true rfl) (dnKp_nb 4 rfl rfl rfl (dnKp_of (lv2 := [(0, dnV b r0), (1, .int p1), (3, .int p3), (4, .int l4)]) [0, 1, 2, 3] rfl rfl)) ?_
          refine dn_goto (pc := 69) 24 dX13_grows_69 rfl ?_
          refine dn_leaf ?_
          exact dn_lv [2, 3, 4, 5, 1, 0] rfl (hK24 (l4, l5, (l6 + 1)))
        refine dn_iload (pc := 24) 5 dX13_grows_24 rfl ?_
        refine dn_bipush (pc := 26) (v := 72) dX13_grows_26 rfl ?_
        refine dn_icmp_ge (pc := 28) 72 dX13_grows_28 rfl (fun _ => ?_) (fun _ => ?_)
        · refine dn_leaf ?_
          exact dn_lv [0, 1, 2, 3, 4] rfl (hE24 (s24.1, s24.2.1))
        · refine dn_aload_n (pc := 31) r0 0 dX13_grows_31 rfl ?_
          refine dn_getR (pc := 32) r0 lRX13_67 dX13_grows_32 (fun v2 => ?_)
          refine dn_iload (pc := 35) 5 dX13_grows_35 rfl ?_
          refine dn_iald (pc := 37) v2 dX13_grows_37 (fun v3 => ?_)
          refine dn_if_ne (pc := 38) 66 dX13_grows_38 rfl (fun _ => ?_) (fun _ => ?_)
          · exact dn_lv [0, 1, 2, 3, 4, 5] rfl (hj66 s24.1 s24.2.1 s24.2.2)
          · refine dn_aload_n (pc := 41) r0 0 dX13_grows_41 rfl ?_
            refine dn_iload_n (pc := 42) 1 dX13_grows_42 rfl ?_
            refine dn_iload (pc := 43) 5 dX13_grows_43 rfl ?_
            refine dn_iload_n (pc := 45) 2 dX13_grows_45 rfl ?_
            refine dn_callV0Z (pc := 46) [.int p1, .int s24.2.2, .int p3] r0 kRX13_419 (mX13_isBeside w x b r0 p1 s24.2.2 p3) rfl rfl (Nat.le_of_ble_eq_true rfl) ⟨(Nat.le_of_ble_eq_true rfl), (Nat.le_of_ble_eq_true rfl)⟩ ⟨rfl, rfl, (Nat.le_of_ble_eq_true rfl), (Nat.le_of_ble_eq_true rfl)⟩ dX13_grows_46 (fun v4 => ?_)
            refine dn_ifz_eq (pc := 49) 66 dX13_grows_49 rfl (fun _ => ?_) (fun _ => ?_)
            · refine dn_aload_n (pc := 52) r0 0 dX13_grows_52 rfl ?_
              refine dn_getR (pc := 53) r0 lRX13_67 dX13_grows_53 (fun v5 => ?_)
              refine dn_iload (pc := 56) 5 dX13_grows_56 rfl ?_
              refine dn_iload_n (pc := 58) 2 dX13_grows_58 rfl ?_
              refine dn_iast (pc := 59) v5 dX13_grows_59 ?_
              refine dn_iinc (pc := 60) (s24.1 + 1) 3 dX13_grows_60 rfl rfl (Nat.le_of_ble_eq_true rfl) (dnKp_nb 2 rfl rfl rfl (dnKp_of (lv2 := [(0, dnV b r0), (1, .int p1), (6, .int s24.2.2)]) [0, 1, 5] rfl rfl)) ?_
              refine dn_iconst (pc := 63) (v := 1) dX13_grows_63 rfl ?_
              refine dn_istore (pc := 64) dX13_grows_64 (Nat.le_of_ble_eq_true rfl) (dnKp_nb 0 rfl rfl rfl (dnKp_of (lv2 := [(3, .int p3), (0, dnV b r0), (1, .int p1), (6, .int s24.2.2)]) [1, 2, 3, 4] rfl rfl)) ?_
              exact dn_lv [3, 4, 2, 1, 0, 5] rfl (hj66 (s24.1 + 1) true s24.2.2)
            · exact dn_lv [0, 1, 2, 3, 4, 5] rfl (hj66 s24.1 s24.2.1 s24.2.2)
      · refine dn_goto (pc := 72) 13 dX13_grows_72 rfl ?_
        refine dn_leaf ?_
        exact dn_lv [0, 1, 2, 3, 4] rfl (hK13 (q24.1, q24.2))
    · refine dn_leaf ?_
      exact dn_lv [3] rfl (hE13 s13.1)
  · refine dn_iload (pc := 75) 0 dX13_grows_75 rfl ?_
    exact dn_ret (Nat.le_of_ble_eq_true rfl) (Nat.le_of_ble_eq_true rfl) rfl dX13_grows_77
abbrev rmX13_holdsAnswer : Room := { frames := 2, cells := 0, slots := 0, locals := 45 }
def fX13_holdsAnswer (r0 : Option Nat) (p1 : Int32) (p2 : Int32) : dnM Int32 :=
  dnB (fX13_isGrid p1) fun v1 =>
  if v1 = true then
  (dnB (dnCv r0 11 (fX13_placeFault r0 p1 p2)) fun v2 =>
  if v2 = 0 then
  (dnB (dnCv r0 11 (fX13_holdsOf r0 p1 p2)) fun v3 =>
  dnP v3)
  else
  (dnP v2))
  else
  (dnP (-1))
abbrev jX13_holdsAnswer (w : dnWd) (x : dnX) (b : Nat) := dnD w x b (fun _ => True) cX13_holdsAnswer RX13 4 rmX13_holdsAnswer "holdsAnswer" eI
set_option maxHeartbeats 4000000 in
set_option maxRecDepth 100000 in
theorem mX13_holdsAnswer (w : dnWd) (x : dnX) (b : Nat) (r0 : Option Nat) (p1 : Int32) (p2 : Int32) : dnMt w x b yX13_holdsAnswer cX13_holdsAnswer 4 (some .int) rmX13_holdsAnswer eI [dnV b r0, .int p1, .int p2] (fX13_holdsAnswer r0 p1 p2) := by
  have hlv : lv_args 0 [dnV b r0, .int p1, .int p2] = [(0, dnV b r0), (1, .int p1), (2, .int p2)] := by cases r0 <;> rfl
  refine dn_mt (by decide +kernel) roI (by cases r0 <;> exact (Nat.le_of_ble_eq_true rfl)) ?_
  rw [hlv]
  refine dn_top ?_
  show jX13_holdsAnswer w x b 0 0 0 _ [] (dnB _ dnP)
  unfold fX13_holdsAnswer
  refine dn_iload_n (pc := 0) 1 dX13_holdsAnswer_0 rfl ?_
  refine dn_callS0Z (pc := 1) [.int p1]  kRX13_134 (mX13_isGrid w x b p1) rfl rfl (Nat.le_of_ble_eq_true rfl) ⟨(Nat.le_of_ble_eq_true rfl), (Nat.le_of_ble_eq_true rfl)⟩ ⟨rfl, rfl, (Nat.le_of_ble_eq_true rfl), (Nat.le_of_ble_eq_true rfl)⟩ dX13_holdsAnswer_1 (fun v1 => ?_)
  refine dn_ifz_ne (pc := 4) 9 dX13_holdsAnswer_4 rfl (fun _ => ?_) (fun _ => ?_)
  · refine dn_aload_n (pc := 9) r0 0 dX13_holdsAnswer_9 rfl ?_
    refine dn_iload_n (pc := 10) 1 dX13_holdsAnswer_10 rfl ?_
    refine dn_iload_n (pc := 11) 2 dX13_holdsAnswer_11 rfl ?_
    refine dn_callV0I (pc := 12) [.int p1, .int p2] r0 kRX13_124 (mX13_placeFault w x b r0 p1 p2) rfl rfl (Nat.le_of_ble_eq_true rfl) ⟨(Nat.le_of_ble_eq_true rfl), (Nat.le_of_ble_eq_true rfl)⟩ ⟨rfl, rfl, (Nat.le_of_ble_eq_true rfl), (Nat.le_of_ble_eq_true rfl)⟩ dX13_holdsAnswer_12 (fun v2 => ?_)
    refine dn_istore_n (pc := 15) dX13_holdsAnswer_15 (Nat.le_of_ble_eq_true rfl) (dnKp_nb 2 rfl rfl rfl (dnKp_of (lv2 := [(0, dnV b r0), (1, .int p1)]) [0, 1] rfl rfl)) ?_
    refine dn_iload_n (pc := 16) 0 dX13_holdsAnswer_16 rfl ?_
    refine dn_if_eq (pc := 17) 24 dX13_holdsAnswer_17 rfl (fun _ => ?_) (fun _ => ?_)
    · refine dn_aload_n (pc := 24) r0 2 dX13_holdsAnswer_24 rfl ?_
      refine dn_iload_n (pc := 25) 3 dX13_holdsAnswer_25 rfl ?_
      refine dn_iload_n (pc := 26) 1 dX13_holdsAnswer_26 rfl ?_
      refine dn_callV0I (pc := 27) [.int p1, .int p2] r0 kRX13_169 (mX13_holdsOf w x b r0 p1 p2) rfl rfl (Nat.le_of_ble_eq_true rfl) ⟨(Nat.le_of_ble_eq_true rfl), (Nat.le_of_ble_eq_true rfl)⟩ ⟨rfl, rfl, (Nat.le_of_ble_eq_true rfl), (Nat.le_of_ble_eq_true rfl)⟩ dX13_holdsAnswer_27 (fun v3 => ?_)
      exact dn_ret (Nat.le_of_ble_eq_true rfl) (Nat.le_of_ble_eq_true rfl) rfl dX13_holdsAnswer_30
    · refine dn_iload_n (pc := 20) 0 dX13_holdsAnswer_20 rfl ?_
      refine dn_goto (pc := 21) 30 dX13_holdsAnswer_21 rfl ?_
      exact dn_ret (Nat.le_of_ble_eq_true rfl) (Nat.le_of_ble_eq_true rfl) rfl dX13_holdsAnswer_30
  · refine dn_iconst (pc := 7) (v := -1) dX13_holdsAnswer_7 rfl ?_
    exact dn_ret (Nat.le_of_ble_eq_true rfl) (Nat.le_of_ble_eq_true rfl) rfl dX13_holdsAnswer_8
abbrev rmX13_holds : Room := { frames := 3, cells := 0, slots := 0, locals := 68 }
def fX13_holds (r0 : Option Nat) (p1 : Int32) (p2 : Int32) : dnM Int32 :=
  dnB (dnCv r0 11 (fX13_holdsAnswer r0 p1 p2)) fun v1 =>
  dnB (dnCv r0 11 (fX13_said r0 v1)) fun v2 =>
  dnP v2
abbrev jX13_holds (w : dnWd) (x : dnX) (b : Nat) := dnD w x b (fun _ => True) cX13_holds RX13 3 rmX13_holds "holds" eI
set_option maxHeartbeats 4000000 in
set_option maxRecDepth 100000 in
theorem mX13_holds (w : dnWd) (x : dnX) (b : Nat) (r0 : Option Nat) (p1 : Int32) (p2 : Int32) : dnMt w x b yX13_holds cX13_holds 3 (some .int) rmX13_holds eI [dnV b r0, .int p1, .int p2] (fX13_holds r0 p1 p2) := by
  have hlv : lv_args 0 [dnV b r0, .int p1, .int p2] = [(0, dnV b r0), (1, .int p1), (2, .int p2)] := by cases r0 <;> rfl
  refine dn_mt (by decide +kernel) roI (by cases r0 <;> exact (Nat.le_of_ble_eq_true rfl)) ?_
  rw [hlv]
  refine dn_top ?_
  show jX13_holds w x b 0 0 0 _ [] (dnB _ dnP)
  unfold fX13_holds
  refine dn_aload_n (pc := 0) r0 0 dX13_holds_0 rfl ?_
  refine dn_aload_n (pc := 1) r0 0 dX13_holds_1 rfl ?_
  refine dn_iload_n (pc := 2) 1 dX13_holds_2 rfl ?_
  refine dn_iload_n (pc := 3) 2 dX13_holds_3 rfl ?_
  refine dn_callV0I (pc := 4) [.int p1, .int p2] r0 kRX13_178 (mX13_holdsAnswer w x b r0 p1 p2) rfl rfl (Nat.le_of_ble_eq_true rfl) ⟨(Nat.le_of_ble_eq_true rfl), (Nat.le_of_ble_eq_true rfl)⟩ ⟨rfl, rfl, (Nat.le_of_ble_eq_true rfl), (Nat.le_of_ble_eq_true rfl)⟩ dX13_holds_4 (fun v1 => ?_)
  refine dn_callV0I (pc := 7) [.int v1] r0 kRX13_137 (mX13_said w x b r0 v1) rfl rfl (Nat.le_of_ble_eq_true rfl) ⟨(Nat.le_of_ble_eq_true rfl), (Nat.le_of_ble_eq_true rfl)⟩ ⟨rfl, rfl, (Nat.le_of_ble_eq_true rfl), (Nat.le_of_ble_eq_true rfl)⟩ dX13_holds_7 (fun v2 => ?_)
  exact dn_ret (Nat.le_of_ble_eq_true rfl) (Nat.le_of_ble_eq_true rfl) rfl dX13_holds_10
abbrev rmX13_isFigure : Room := { frames := 1, cells := 0, slots := 0, locals := 22 }
def fX13_isFigure (r0 : Option Nat) (p1 : Int32) : dnM Bool :=
  dnB (dnGI r0 11 37) fun v1 =>
  if v1 ≤ p1 then
  (dnP false)
  else
  (dnB (dnGR r0 11 36) fun v2 =>
  dnB (dnAI v2 100 p1) fun v3 =>
  dnB (fX13_in v3 48 57) fun v4 =>
  if v4 = true then
  (dnP true)
  else
  (dnP false))
abbrev jX13_isFigure (w : dnWd) (x : dnX) (b : Nat) := dnD w x b (fun _ => True) cX13_isFigure RX13 2 rmX13_isFigure "isFigure" eZ
set_option maxHeartbeats 4000000 in
set_option maxRecDepth 100000 in
theorem mX13_isFigure (w : dnWd) (x : dnX) (b : Nat) (r0 : Option Nat) (p1 : Int32) : dnMt w x b yX13_isFigure cX13_isFigure 2 (some .boolean) rmX13_isFigure eZ [dnV b r0, .int p1] (fX13_isFigure r0 p1) := by
  have hlv : lv_args 0 [dnV b r0, .int p1] = [(0, dnV b r0), (1, .int p1)] := by cases r0 <;> rfl
  refine dn_mt (by decide +kernel) roZ (by cases r0 <;> exact (Nat.le_of_ble_eq_true rfl)) ?_
  rw [hlv]
  refine dn_top ?_
  show jX13_isFigure w x b 0 0 0 _ [] (dnB _ dnP)
  unfold fX13_isFigure
  refine dn_iload_n (pc := 0) 1 dX13_isFigure_0 rfl ?_
  refine dn_aload_n (pc := 1) r0 0 dX13_isFigure_1 rfl ?_
  refine dn_getI (pc := 2) r0 lRX13_466 dX13_isFigure_2 (fun v1 => ?_)
  refine dn_icmp_ge (pc := 5) 28 dX13_isFigure_5 rfl (fun _ => ?_) (fun _ => ?_)
  · refine dn_iconst (pc := 28) (v := 0) dX13_isFigure_28 rfl ?_
    exact dn_ret (Nat.le_of_ble_eq_true rfl) (Nat.le_of_ble_eq_true rfl) rfl dX13_isFigure_29
  · refine dn_aload_n (pc := 8) r0 0 dX13_isFigure_8 rfl ?_
    refine dn_getR (pc := 9) r0 lRX13_94 dX13_isFigure_9 (fun v2 => ?_)
    refine dn_iload_n (pc := 12) 1 dX13_isFigure_12 rfl ?_
    refine dn_iald (pc := 13) v2 dX13_isFigure_13 (fun v3 => ?_)
    refine dn_bipush (pc := 14) (v := 48) dX13_isFigure_14 rfl ?_
    refine dn_bipush (pc := 16) (v := 57) dX13_isFigure_16 rfl ?_
    refine dn_callS0Z (pc := 18) [.int v3, .int 48, .int 57]  kRX13_109 (mX13_in w x b v3 48 57) rfl rfl (Nat.le_of_ble_eq_true rfl) ⟨(Nat.le_of_ble_eq_true rfl), (Nat.le_of_ble_eq_true rfl)⟩ ⟨rfl, rfl, (Nat.le_of_ble_eq_true rfl), (Nat.le_of_ble_eq_true rfl)⟩ dX13_isFigure_18 (fun v4 => ?_)
    refine dn_ifz_eq (pc := 21) 28 dX13_isFigure_21 rfl (fun _ => ?_) (fun _ => ?_)
    · refine dn_iconst (pc := 24) (v := 1) dX13_isFigure_24 rfl ?_
      refine dn_goto (pc := 25) 29 dX13_isFigure_25 rfl ?_
      exact dn_ret (Nat.le_of_ble_eq_true rfl) (Nat.le_of_ble_eq_true rfl) rfl dX13_isFigure_29
    · refine dn_iconst (pc := 28) (v := 0) dX13_isFigure_28 rfl ?_
      exact dn_ret (Nat.le_of_ble_eq_true rfl) (Nat.le_of_ble_eq_true rfl) rfl dX13_isFigure_29
abbrev rmX13_isLetter : Room := { frames := 1, cells := 0, slots := 0, locals := 22 }
def fX13_isLetter (r0 : Option Nat) (p1 : Int32) : dnM Bool :=
  dnB (dnGI r0 11 37) fun v1 =>
  if v1 ≤ p1 then
  (dnP false)
  else
  (dnB (dnGR r0 11 36) fun v2 =>
  dnB (dnAI v2 100 p1) fun v3 =>
  dnB (fX13_in v3 97 122) fun v4 =>
  if v4 = true then
  (dnP true)
  else
  (dnP false))
abbrev jX13_isLetter (w : dnWd) (x : dnX) (b : Nat) := dnD w x b (fun _ => True) cX13_isLetter RX13 2 rmX13_isLetter "isLetter" eZ
set_option maxHeartbeats 4000000 in
set_option maxRecDepth 100000 in
theorem mX13_isLetter (w : dnWd) (x : dnX) (b : Nat) (r0 : Option Nat) (p1 : Int32) : dnMt w x b yX13_isLetter cX13_isLetter 2 (some .boolean) rmX13_isLetter eZ [dnV b r0, .int p1] (fX13_isLetter r0 p1) := by
  have hlv : lv_args 0 [dnV b r0, .int p1] = [(0, dnV b r0), (1, .int p1)] := by cases r0 <;> rfl
  refine dn_mt (by decide +kernel) roZ (by cases r0 <;> exact (Nat.le_of_ble_eq_true rfl)) ?_
  rw [hlv]
  refine dn_top ?_
  show jX13_isLetter w x b 0 0 0 _ [] (dnB _ dnP)
  unfold fX13_isLetter
  refine dn_iload_n (pc := 0) 1 dX13_isLetter_0 rfl ?_
  refine dn_aload_n (pc := 1) r0 0 dX13_isLetter_1 rfl ?_
  refine dn_getI (pc := 2) r0 lRX13_466 dX13_isLetter_2 (fun v1 => ?_)
  refine dn_icmp_ge (pc := 5) 28 dX13_isLetter_5 rfl (fun _ => ?_) (fun _ => ?_)
  · refine dn_iconst (pc := 28) (v := 0) dX13_isLetter_28 rfl ?_
    exact dn_ret (Nat.le_of_ble_eq_true rfl) (Nat.le_of_ble_eq_true rfl) rfl dX13_isLetter_29
  · refine dn_aload_n (pc := 8) r0 0 dX13_isLetter_8 rfl ?_
    refine dn_getR (pc := 9) r0 lRX13_94 dX13_isLetter_9 (fun v2 => ?_)
    refine dn_iload_n (pc := 12) 1 dX13_isLetter_12 rfl ?_
    refine dn_iald (pc := 13) v2 dX13_isLetter_13 (fun v3 => ?_)
    refine dn_bipush (pc := 14) (v := 97) dX13_isLetter_14 rfl ?_
    refine dn_bipush (pc := 16) (v := 122) dX13_isLetter_16 rfl ?_
    refine dn_callS0Z (pc := 18) [.int v3, .int 97, .int 122]  kRX13_109 (mX13_in w x b v3 97 122) rfl rfl (Nat.le_of_ble_eq_true rfl) ⟨(Nat.le_of_ble_eq_true rfl), (Nat.le_of_ble_eq_true rfl)⟩ ⟨rfl, rfl, (Nat.le_of_ble_eq_true rfl), (Nat.le_of_ble_eq_true rfl)⟩ dX13_isLetter_18 (fun v4 => ?_)
    refine dn_ifz_eq (pc := 21) 28 dX13_isLetter_21 rfl (fun _ => ?_) (fun _ => ?_)
    · refine dn_iconst (pc := 24) (v := 1) dX13_isLetter_24 rfl ?_
      refine dn_goto (pc := 25) 29 dX13_isLetter_25 rfl ?_
      exact dn_ret (Nat.le_of_ble_eq_true rfl) (Nat.le_of_ble_eq_true rfl) rfl dX13_isLetter_29
    · refine dn_iconst (pc := 28) (v := 0) dX13_isLetter_28 rfl ?_
      exact dn_ret (Nat.le_of_ble_eq_true rfl) (Nat.le_of_ble_eq_true rfl) rfl dX13_isLetter_29
abbrev rmX13_isLying : Room := { frames := 4, cells := 0, slots := 0, locals := 93 }
def fX13_isLying_j112 (l0 : Option Nat) (l1 : Int32) (l2 : Int32) (l3 : Int32) (l4 : Int32) (l5 : Int32) : dnM ((Int32) ⊕ ((Unit) ⊕ Bool)) :=
  dnP (.inl (l5 + 1))
def fX13_isLying_b3 (c0 : Option Nat) (c1 : Int32) (c2 : Int32) (c3 : Int32) (c4 : Int32) (s3 : Int32) : dnM ((Int32) ⊕ ((Unit) ⊕ Bool)) :=
  dnB (dnGR c0 11 4) fun v1 =>
  dnB (dnAI v1 100 c2) fun v2 =>
  if (12 * v2) ≤ s3 then
  (dnP (.inr (.inl ())))
  else
  (dnB (dnNz 12) fun _ =>
  dnB (dnNz 12) fun _ =>
  dnB (dnCv c0 11 (fX13_hasCell c0 c2 (s3 / 12) (s3 - s3 / 12 * 12))) fun v3 =>
  if v3 = true then
  (dnB (dnCv c0 11 (fX13_hasCell c0 c1 (c3 + (s3 / 12)) (c4 + (s3 - s3 / 12 * 12)))) fun v4 =>
  if v4 = true then
  (dnB (dnCv c0 11 (fX13_cellAt c0 c2 s3)) fun v5 =>
  dnB (dnGR c0 11 9) fun v6 =>
  dnB (dnAI v6 100 v5) fun v7 =>
  if v7 = 11 then
  (fX13_isLying_j112 c0 c1 c2 c3 c4 s3)
  else
  (dnB (dnCv c0 11 (fX13_held c0 c1 (c3 + (s3 / 12)))) fun v8 =>
  dnB (dnCv c0 11 (fX13_cellsLike c0 (((12 * v8) + c4) + (s3 - s3 / 12 * 12)) v5)) fun v9 =>
  if v9 = true then
  (fX13_isLying_j112 c0 c1 c2 c3 c4 s3)
  else
  (dnP (.inr (.inr false)))))
  else
  (dnP (.inr (.inr false))))
  else
  (fX13_isLying_j112 c0 c1 c2 c3 c4 s3))
def fX13_isLying (r0 : Option Nat) (p1 : Int32) (p2 : Int32) (p3 : Int32) (p4 : Int32) : dnM Bool :=
  dnB (dnIt 1000 (fX13_isLying_b3 r0 p1 p2 p3 p4) 0) fun q_ => q_.elim (fun q3 => dnP true) (fun v_ => dnP v_)
abbrev jX13_isLying (w : dnWd) (x : dnX) (b : Nat) := dnD w x b (fun _ => True) cX13_isLying RX13 9 rmX13_isLying "isLying" eZ
set_option maxHeartbeats 4000000 in
set_option maxRecDepth 100000 in
theorem mX13_isLying (w : dnWd) (x : dnX) (b : Nat) (r0 : Option Nat) (p1 : Int32) (p2 : Int32) (p3 : Int32) (p4 : Int32) : dnMt w x b yX13_isLying cX13_isLying 9 (some .boolean) rmX13_isLying eZ [dnV b r0, .int p1, .int p2, .int p3, .int p4] (fX13_isLying r0 p1 p2 p3 p4) := by
  have hlv : lv_args 0 [dnV b r0, .int p1, .int p2, .int p3, .int p4] = [(0, dnV b r0), (1, .int p1), (2, .int p2), (3, .int p3), (4, .int p4)] := by cases r0 <;> rfl
  refine dn_mt (by decide +kernel) roZ (by cases r0 <;> exact (Nat.le_of_ble_eq_true rfl)) ?_
  rw [hlv]
  refine dn_top ?_
  show jX13_isLying w x b 0 0 0 _ [] (dnB _ dnP)
  unfold fX13_isLying
  refine dn_iconst (pc := 0) (v := 0) dX13_isLying_0 rfl ?_
  refine dn_istore (pc := 1) dX13_isLying_1 (Nat.le_of_ble_eq_true rfl) (dnKp_nb 4 rfl rfl rfl (dnKp_of (lv2 := [(0, dnV b r0), (1, .int p1), (2, .int p2), (3, .int p3)]) [0, 1, 2, 3] rfl rfl)) ?_
  refine dn_assoc ?_
  refine dn_lv [2, 3, 4, 5, 1, 0] (lv2 := (fun s => [(0, dnV b r0), (1, .int p1), (2, .int p2), (3, .int p3), (4, .int p4), (5, .int s)]) 0) rfl ?_
  refine dn_loopR (pc := 3) (body := fX13_isLying_b3 r0 p1 p2 p3 p4) 118 (fun s => [(0, dnV b r0), (1, .int p1), (2, .int p2), (3, .int p3), (4, .int p4), (5, .int s)]) (fun q => []) (fun s3 K3 E3 hK3 hE3 hR3 => ?_) (dn_rt (Nat.le_of_ble_eq_true rfl) (Nat.le_of_ble_eq_true rfl) (fun _ => rfl)) (fun q3 => ?_) 1000 0
  · unfold fX13_isLying_b3
    have hj112 : ∀ (l5 : Int32), jX13_isLying w x b 112 0 0 [(0, dnV b r0), (1, .int p1), (2, .int p2), (3, .int p3), (4, .int p4), (5, .int l5)] [] (dnB (fX13_isLying_j112 r0 p1 p2 p3 p4 l5) (dnKo K3 E3)) := by
      intro l5
      unfold fX13_isLying_j112
      refine dn_iinc (pc := 112) (l5 + 1) 5 dX13_isLying_112 rfl rfl (Nat.le_of_ble_eq_true rfl) (dnKp_nb 4 rfl rfl rfl (dnKp_of (lv2 := [(0, dnV b r0), (1, .int p1), (2, .int p2), (3, .int p3)]) [0, 1, 2, 3] rfl rfl)) ?_
      refine dn_goto (pc := 115) 3 dX13_isLying_115 rfl ?_
      refine dn_leaf ?_
      exact dn_lv [2, 3, 4, 5, 1, 0] rfl (hK3 (l5 + 1))
    refine dn_iload (pc := 3) 5 dX13_isLying_3 rfl ?_
    refine dn_bipush (pc := 5) (v := 12) dX13_isLying_5 rfl ?_
    refine dn_aload_n (pc := 7) r0 0 dX13_isLying_7 rfl ?_
    refine dn_getR (pc := 8) r0 lRX13_17 dX13_isLying_8 (fun v1 => ?_)
    refine dn_iload_n (pc := 11) 2 dX13_isLying_11 rfl ?_
    refine dn_iald (pc := 12) v1 dX13_isLying_12 (fun v2 => ?_)
    refine dn_imul (pc := 13) dX13_isLying_13 ?_
    refine dn_icmp_ge (pc := 14) 118 dX13_isLying_14 rfl (fun _ => ?_) (fun _ => ?_)
    · refine dn_leaf ?_
      exact dn_lv [] rfl (hE3 ())
    · refine dn_iload (pc := 17) 5 dX13_isLying_17 rfl ?_
      refine dn_bipush (pc := 19) (v := 12) dX13_isLying_19 rfl ?_
      refine dn_idiv (pc := 21) dX13_isLying_21 ?_
      refine dn_istore (pc := 22) dX13_isLying_22 (Nat.le_of_ble_eq_true rfl) (dnKp_nb 5 rfl rfl rfl (dnKp_of (lv2 := [(0, dnV b r0), (1, .int p1), (2, .int p2), (3, .int p3), (4, .int p4)]) [0, 1, 2, 3, 4] rfl rfl)) ?_
      refine dn_iload (pc := 24) 1 dX13_isLying_24 rfl ?_
      refine dn_bipush (pc := 26) (v := 12) dX13_isLying_26 rfl ?_
      refine dn_irem (pc := 28) dX13_isLying_28 ?_
      refine dn_istore (pc := 29) dX13_isLying_29 (Nat.le_of_ble_eq_true rfl) (dnKp_nb 0 rfl rfl rfl (dnKp_of (lv2 := [(5, .int s3), (0, dnV b r0), (1, .int p1), (2, .int p2), (3, .int p3), (4, .int p4)]) [1, 2, 3, 4, 5, 6] rfl rfl)) ?_
      refine dn_aload_n (pc := 31) r0 3 dX13_isLying_31 rfl ?_
      refine dn_iload_n (pc := 32) 5 dX13_isLying_32 rfl ?_
      refine dn_iload (pc := 33) 1 dX13_isLying_33 rfl ?_
      refine dn_iload (pc := 35) 0 dX13_isLying_35 rfl ?_
      refine dn_callV0Z (pc := 37) [.int p2, .int (s3 / 12), .int (s3 - s3 / 12 * 12)] r0 kRX13_348 (mX13_hasCell w x b r0 p2 (s3 / 12) (s3 - s3 / 12 * 12)) rfl rfl (Nat.le_of_ble_eq_true rfl) ⟨(Nat.le_of_ble_eq_true rfl), (Nat.le_of_ble_eq_true rfl)⟩ ⟨rfl, rfl, (Nat.le_of_ble_eq_true rfl), (Nat.le_of_ble_eq_true rfl)⟩ dX13_isLying_37 (fun v3 => ?_)
      refine dn_ifz_eq (pc := 40) 112 dX13_isLying_40 rfl (fun _ => ?_) (fun _ => ?_)
      · refine dn_aload_n (pc := 43) r0 3 dX13_isLying_43 rfl ?_
        refine dn_iload_n (pc := 44) 4 dX13_isLying_44 rfl ?_
        refine dn_iload_n (pc := 45) 6 dX13_isLying_45 rfl ?_
        refine dn_iload (pc := 46) 1 dX13_isLying_46 rfl ?_
        refine dn_iadd (pc := 48) dX13_isLying_48 ?_
        refine dn_iload (pc := 49) 7 dX13_isLying_49 rfl ?_
        refine dn_iload (pc := 51) 0 dX13_isLying_51 rfl ?_
        refine dn_iadd (pc := 53) dX13_isLying_53 ?_
        refine dn_callV0Z (pc := 54) [.int p1, .int (p3 + (s3 / 12)), .int (p4 + (s3 - s3 / 12 * 12))] r0 kRX13_348 (mX13_hasCell w x b r0 p1 (p3 + (s3 / 12)) (p4 + (s3 - s3 / 12 * 12))) rfl rfl (Nat.le_of_ble_eq_true rfl) ⟨(Nat.le_of_ble_eq_true rfl), (Nat.le_of_ble_eq_true rfl)⟩ ⟨rfl, rfl, (Nat.le_of_ble_eq_true rfl), (Nat.le_of_ble_eq_true rfl)⟩ dX13_isLying_54 (fun v4 => ?_)
        refine dn_ifz_ne (pc := 57) 62 dX13_isLying_57 rfl (fun _ => ?_) (fun _ => ?_)
        · refine dn_aload_n (pc := 62) r0 3 dX13_isLying_62 rfl ?_
          refine dn_iload_n (pc := 63) 5 dX13_isLying_63 rfl ?_
          refine dn_iload (pc := 64) 2 dX13_isLying_64 rfl ?_
          refine dn_callV0I (pc := 66) [.int p2, .int s3] r0 kRX13_413 (mX13_cellAt w x b r0 p2 s3) rfl rfl (Nat.le_of_ble_eq_true rfl) ⟨(Nat.le_of_ble_eq_true rfl), (Nat.le_of_ble_eq_true rfl)⟩ ⟨rfl, rfl, (Nat.le_of_ble_eq_true rfl), (Nat.le_of_ble_eq_true rfl)⟩ dX13_isLying_66 (fun v5 => ?_)
          refine dn_istore (pc := 69) dX13_isLying_69 (Nat.le_of_ble_eq_true rfl) (dnKp_nb 0 rfl rfl rfl (dnKp_of (lv2 := [(6, .int (s3 / 12)), (5, .int s3), (0, dnV b r0), (1, .int p1), (2, .int p2), (3, .int p3), (4, .int p4)]) [1, 2, 3, 4, 5, 6, 7] rfl rfl)) ?_
          refine dn_aload_n (pc := 71) r0 4 dX13_isLying_71 rfl ?_
          refine dn_getR (pc := 72) r0 lRX13_32 dX13_isLying_72 (fun v6 => ?_)
          refine dn_iload (pc := 75) 0 dX13_isLying_75 rfl ?_
          refine dn_iald (pc := 77) v6 dX13_isLying_77 (fun v7 => ?_)
          refine dn_bipush (pc := 78) (v := 11) dX13_isLying_78 rfl ?_
          refine dn_icmp_eq (pc := 80) 112 dX13_isLying_80 rfl (fun _ => ?_) (fun _ => ?_)
          · exact dn_lv [4, 5, 6, 7, 8, 3] rfl (hj112 s3)
          · refine dn_aload_n (pc := 83) r0 4 dX13_isLying_83 rfl ?_
            refine dn_bipush (pc := 84) (v := 12) dX13_isLying_84 rfl ?_
            refine dn_aload_n (pc := 86) r0 4 dX13_isLying_86 rfl ?_
            refine dn_iload_n (pc := 87) 5 dX13_isLying_87 rfl ?_
            refine dn_iload_n (pc := 88) 7 dX13_isLying_88 rfl ?_
            refine dn_iload (pc := 89) 2 dX13_isLying_89 rfl ?_
            refine dn_iadd (pc := 91) dX13_isLying_91 ?_
            refine dn_callV0I (pc := 92) [.int p1, .int (p3 + (s3 / 12))] r0 kRX13_128 (mX13_held w x b r0 p1 (p3 + (s3 / 12))) rfl rfl (Nat.le_of_ble_eq_true rfl) ⟨(Nat.le_of_ble_eq_true rfl), (Nat.le_of_ble_eq_true rfl)⟩ ⟨rfl, rfl, (Nat.le_of_ble_eq_true rfl), (Nat.le_of_ble_eq_true rfl)⟩ dX13_isLying_92 (fun v8 => ?_)
            refine dn_imul (pc := 95) dX13_isLying_95 ?_
            refine dn_iload (pc := 96) 8 dX13_isLying_96 rfl ?_
            refine dn_iadd (pc := 98) dX13_isLying_98 ?_
            refine dn_iload (pc := 99) 1 dX13_isLying_99 rfl ?_
            refine dn_iadd (pc := 101) dX13_isLying_101 ?_
            refine dn_iload (pc := 102) 0 dX13_isLying_102 rfl ?_
            refine dn_callV0Z (pc := 104) [.int (((12 * v8) + p4) + (s3 - s3 / 12 * 12)), .int v5] r0 kRX13_274 (mX13_cellsLike w x b r0 (((12 * v8) + p4) + (s3 - s3 / 12 * 12)) v5) rfl rfl (Nat.le_of_ble_eq_true rfl) ⟨(Nat.le_of_ble_eq_true rfl), (Nat.le_of_ble_eq_true rfl)⟩ ⟨rfl, rfl, (Nat.le_of_ble_eq_true rfl), (Nat.le_of_ble_eq_true rfl)⟩ dX13_isLying_104 (fun v9 => ?_)
            refine dn_ifz_ne (pc := 107) 112 dX13_isLying_107 rfl (fun _ => ?_) (fun _ => ?_)
            · exact dn_lv [4, 5, 6, 7, 8, 3] rfl (hj112 s3)
            · refine dn_iconst (pc := 110) (v := 0) dX13_isLying_110 rfl ?_
              refine dn_leaf ?_
              exact hR3 false _ _ _ rfl dX13_isLying_111
        · refine dn_iconst (pc := 60) (v := 0) dX13_isLying_60 rfl ?_
          refine dn_leaf ?_
          exact hR3 false _ _ _ rfl dX13_isLying_61
      · exact dn_lv [3, 4, 5, 6, 7, 2] rfl (hj112 s3)
  · dsimp only [Sum.elim_inl]
    refine dn_iconst (pc := 118) (v := 1) dX13_isLying_118 rfl ?_
    exact dn_ret (Nat.le_of_ble_eq_true rfl) (Nat.le_of_ble_eq_true rfl) rfl dX13_isLying_119
abbrev rmX13_join : Room := { frames := 5, cells := 0, slots := 0, locals := 122 }
def fX13_join (r0 : Option Nat) (p1 : Int32) (p2 : Int32) (p3 : Int32) : dnM Int32 :=
  dnB (dnCv r0 11 (fX13_joinDeed r0 p1 p2 p3)) fun v1 =>
  dnB (dnCv r0 11 (fX13_said r0 v1)) fun v2 =>
  dnP v2
abbrev jX13_join (w : dnWd) (x : dnX) (b : Nat) := dnD w x b (fun _ => True) cX13_join RX13 4 rmX13_join "join" eI
set_option maxHeartbeats 4000000 in
set_option maxRecDepth 100000 in
theorem mX13_join (w : dnWd) (x : dnX) (b : Nat) (r0 : Option Nat) (p1 : Int32) (p2 : Int32) (p3 : Int32) : dnMt w x b yX13_join cX13_join 4 (some .int) rmX13_join eI [dnV b r0, .int p1, .int p2, .int p3] (fX13_join r0 p1 p2 p3) := by
  have hlv : lv_args 0 [dnV b r0, .int p1, .int p2, .int p3] = [(0, dnV b r0), (1, .int p1), (2, .int p2), (3, .int p3)] := by cases r0 <;> rfl
  refine dn_mt (by decide +kernel) roI (by cases r0 <;> exact (Nat.le_of_ble_eq_true rfl)) ?_
  rw [hlv]
  refine dn_top ?_
  show jX13_join w x b 0 0 0 _ [] (dnB _ dnP)
  unfold fX13_join
  refine dn_aload_n (pc := 0) r0 0 dX13_join_0 rfl ?_
  refine dn_aload_n (pc := 1) r0 0 dX13_join_1 rfl ?_
  refine dn_iload_n (pc := 2) 1 dX13_join_2 rfl ?_
  refine dn_iload_n (pc := 3) 2 dX13_join_3 rfl ?_
  refine dn_iload_n (pc := 4) 3 dX13_join_4 rfl ?_
  refine dn_callV0I (pc := 5) [.int p1, .int p2, .int p3] r0 kRX13_297 (mX13_joinDeed w x b r0 p1 p2 p3) rfl rfl (Nat.le_of_ble_eq_true rfl) ⟨(Nat.le_of_ble_eq_true rfl), (Nat.le_of_ble_eq_true rfl)⟩ ⟨rfl, rfl, (Nat.le_of_ble_eq_true rfl), (Nat.le_of_ble_eq_true rfl)⟩ dX13_join_5 (fun v1 => ?_)
  refine dn_callV0I (pc := 8) [.int v1] r0 kRX13_137 (mX13_said w x b r0 v1) rfl rfl (Nat.le_of_ble_eq_true rfl) ⟨(Nat.le_of_ble_eq_true rfl), (Nat.le_of_ble_eq_true rfl)⟩ ⟨rfl, rfl, (Nat.le_of_ble_eq_true rfl), (Nat.le_of_ble_eq_true rfl)⟩ dX13_join_8 (fun v2 => ?_)
  exact dn_ret (Nat.le_of_ble_eq_true rfl) (Nat.le_of_ble_eq_true rfl) rfl dX13_join_11
abbrev rmX13_keeps : Room := { frames := 0, cells := 0, slots := 0, locals := 0 }
def fX13_keeps_b9 (c0 : Option Nat) (c1 : Int32) (s9 : Int32) : dnM ((Int32) ⊕ (Unit)) :=
  if 4 ≤ s9 then
  (dnP (.inr ()))
  else
  (dnB (dnGR c0 11 29) fun v2 =>
  dnB (dnGR c0 11 4) fun v3 =>
  dnB (dnAI v3 100 s9) fun v4 =>
  dnB (dnTI v2 100 ((4 * c1) + s9) v4) fun _ =>
  dnP (.inl (s9 + 1)))
def fX13_keeps_b38 (c0 : Option Nat) (c1 : Int32) (s38 : Int32) : dnM ((Int32) ⊕ (Unit)) :=
  if 24 ≤ s38 then
  (dnP (.inr ()))
  else
  (dnB (dnGR c0 11 30) fun v5 =>
  dnB (dnGR c0 11 5) fun v6 =>
  dnB (dnAI v6 100 s38) fun v7 =>
  dnB (dnTI v5 100 ((24 * c1) + s38) v7) fun _ =>
  dnP (.inl (s38 + 1)))
def fX13_keeps_b69 (c0 : Option Nat) (c1 : Int32) (s69 : Int32) : dnM ((Int32) ⊕ (Unit)) :=
  if 32 ≤ s69 then
  (dnP (.inr ()))
  else
  (dnB (dnGR c0 11 31) fun v8 =>
  dnB (dnGR c0 11 6) fun v9 =>
  dnB (dnAI v9 100 s69) fun v10 =>
  dnB (dnTI v8 100 ((32 * c1) + s69) v10) fun _ =>
  dnB (dnGR c0 11 32) fun v11 =>
  dnB (dnGR c0 11 7) fun v12 =>
  dnB (dnAI v12 100 s69) fun v13 =>
  dnB (dnTI v11 100 ((32 * c1) + s69) v13) fun _ =>
  dnP (.inl (s69 + 1)))
def fX13_keeps_b117 (c0 : Option Nat) (c1 : Int32) (s117 : Int32) : dnM ((Int32) ⊕ (Unit)) :=
  if 384 ≤ s117 then
  (dnP (.inr ()))
  else
  (dnB (dnGR c0 11 33) fun v14 =>
  dnB (dnGR c0 11 9) fun v15 =>
  dnB (dnAI v15 100 s117) fun v16 =>
  dnB (dnTI v14 100 ((384 * c1) + s117) v16) fun _ =>
  dnB (dnGR c0 11 34) fun v17 =>
  dnB (dnGR c0 11 10) fun v18 =>
  dnB (dnAL v18 102 s117) fun v19 =>
  dnB (dnTL v17 102 ((384 * c1) + s117) v19) fun _ =>
  dnB (dnGR c0 11 35) fun v20 =>
  dnB (dnGR c0 11 11) fun v21 =>
  dnB (dnAD v21 103 s117) fun v22 =>
  dnB (dnTD v20 103 ((384 * c1) + s117) v22) fun _ =>
  dnP (.inl (s117 + 1)))
def fX13_keeps (r0 : Option Nat) (p1 : Int32) : dnM Unit :=
  dnB (dnGR r0 11 28) fun v1 =>
  dnB (dnTI v1 100 p1 1) fun _ =>
  dnB (dnIt 1000 (fX13_keeps_b9 r0 p1) 0) fun q9 =>
  dnB (dnIt 1000 (fX13_keeps_b38 r0 p1) 0) fun q38 =>
  dnB (dnIt 1000 (fX13_keeps_b69 r0 p1) 0) fun q69 =>
  dnB (dnIt 1000 (fX13_keeps_b117 r0 p1) 0) fun q117 =>
  dnP ()
abbrev jX13_keeps (w : dnWd) (x : dnX) (b : Nat) := dnD w x b (fun _ => True) cX13_keeps RX13 3 rmX13_keeps "keeps" eU
set_option maxHeartbeats 4000000 in
set_option maxRecDepth 100000 in
theorem mX13_keeps (w : dnWd) (x : dnX) (b : Nat) (r0 : Option Nat) (p1 : Int32) : dnMt w x b yX13_keeps cX13_keeps 3 none rmX13_keeps eU [dnV b r0, .int p1] (fX13_keeps r0 p1) := by
  have hlv : lv_args 0 [dnV b r0, .int p1] = [(0, dnV b r0), (1, .int p1)] := by cases r0 <;> rfl
  refine dn_mt (by decide +kernel) roU (by cases r0 <;> exact (Nat.le_of_ble_eq_true rfl)) ?_
  rw [hlv]
  refine dn_top ?_
  show jX13_keeps w x b 0 0 0 _ [] (dnB _ dnP)
  unfold fX13_keeps
  refine dn_aload_n (pc := 0) r0 0 dX13_keeps_0 rfl ?_
  refine dn_getR (pc := 1) r0 lRX13_70 dX13_keeps_1 (fun v1 => ?_)
  refine dn_iload_n (pc := 4) 1 dX13_keeps_4 rfl ?_
  refine dn_iconst (pc := 5) (v := 1) dX13_keeps_5 rfl ?_
  refine dn_iast (pc := 6) v1 dX13_keeps_6 ?_
  refine dn_iconst (pc := 7) (v := 0) dX13_keeps_7 rfl ?_
  refine dn_istore_n (pc := 8) dX13_keeps_8 (Nat.le_of_ble_eq_true rfl) (dnKp_nb 1 rfl rfl rfl (dnKp_of (lv2 := [(0, dnV b r0)]) [0] rfl rfl)) ?_
  refine dn_assoc ?_
  refine dn_lv [2, 1, 0] (lv2 := (fun s => [(0, dnV b r0), (1, .int p1), (2, .int s)]) 0) rfl ?_
  refine dn_loopE (pc := 9) (body := fX13_keeps_b9 r0 p1) 36 (fun s => [(0, dnV b r0), (1, .int p1), (2, .int s)]) (fun q => [(0, dnV b r0), (1, .int p1)]) (fun s9 K9 E9 hK9 hE9 => ?_) (fun q9 => ?_) 1000 0
  · unfold fX13_keeps_b9
    refine dn_iload_n (pc := 9) 2 dX13_keeps_9 rfl ?_
    refine dn_iconst (pc := 10) (v := 4) dX13_keeps_10 rfl ?_
    refine dn_icmp_ge (pc := 11) 36 dX13_keeps_11 rfl (fun _ => ?_) (fun _ => ?_)
    · refine dn_leaf ?_
      exact dn_lv [0, 1] rfl (hE9 ())
    · refine dn_aload_n (pc := 14) r0 0 dX13_keeps_14 rfl ?_
      refine dn_getR (pc := 15) r0 lRX13_73 dX13_keeps_15 (fun v2 => ?_)
      refine dn_iconst (pc := 18) (v := 4) dX13_keeps_18 rfl ?_
      refine dn_iload_n (pc := 19) 1 dX13_keeps_19 rfl ?_
      refine dn_imul (pc := 20) dX13_keeps_20 ?_
      refine dn_iload_n (pc := 21) 2 dX13_keeps_21 rfl ?_
      refine dn_iadd (pc := 22) dX13_keeps_22 ?_
      refine dn_aload_n (pc := 23) r0 0 dX13_keeps_23 rfl ?_
      refine dn_getR (pc := 24) r0 lRX13_17 dX13_keeps_24 (fun v3 => ?_)
      refine dn_iload_n (pc := 27) 2 dX13_keeps_27 rfl ?_
      refine dn_iald (pc := 28) v3 dX13_keeps_28 (fun v4 => ?_)
      refine dn_iast (pc := 29) v2 dX13_keeps_29 ?_
      refine dn_iinc (pc := 30) (s9 + 1) 2 dX13_keeps_30 rfl rfl (Nat.le_of_ble_eq_true rfl) (dnKp_nb 1 rfl rfl rfl (dnKp_of (lv2 := [(0, dnV b r0)]) [0] rfl rfl)) ?_
      refine dn_goto (pc := 33) 9 dX13_keeps_33 rfl ?_
      refine dn_leaf ?_
      exact dn_lv [2, 1, 0] rfl (hK9 (s9 + 1))
  · refine dn_iconst (pc := 36) (v := 0) dX13_keeps_36 rfl ?_
    refine dn_istore_n (pc := 37) dX13_keeps_37 (Nat.le_of_ble_eq_true rfl) (dnKp_nb 1 rfl rfl rfl (dnKp_of (lv2 := [(0, dnV b r0)]) [0] rfl rfl)) ?_
    refine dn_assoc ?_
    refine dn_lv [2, 1, 0] (lv2 := (fun s => [(0, dnV b r0), (1, .int p1), (2, .int s)]) 0) rfl ?_
    refine dn_loopE (pc := 38) (body := fX13_keeps_b38 r0 p1) 67 (fun s => [(0, dnV b r0), (1, .int p1), (2, .int s)]) (fun q => [(0, dnV b r0), (1, .int p1)]) (fun s38 K38 E38 hK38 hE38 => ?_) (fun q38 => ?_) 1000 0
    · unfold fX13_keeps_b38
      refine dn_iload_n (pc := 38) 2 dX13_keeps_38 rfl ?_
      refine dn_bipush (pc := 39) (v := 24) dX13_keeps_39 rfl ?_
      refine dn_icmp_ge (pc := 41) 67 dX13_keeps_41 rfl (fun _ => ?_) (fun _ => ?_)
      · refine dn_leaf ?_
        exact dn_lv [0, 1] rfl (hE38 ())
      · refine dn_aload_n (pc := 44) r0 0 dX13_keeps_44 rfl ?_
        refine dn_getR (pc := 45) r0 lRX13_76 dX13_keeps_45 (fun v5 => ?_)
        refine dn_bipush (pc := 48) (v := 24) dX13_keeps_48 rfl ?_
        refine dn_iload_n (pc := 50) 1 dX13_keeps_50 rfl ?_
        refine dn_imul (pc := 51) dX13_keeps_51 ?_
        refine dn_iload_n (pc := 52) 2 dX13_keeps_52 rfl ?_
        refine dn_iadd (pc := 53) dX13_keeps_53 ?_
        refine dn_aload_n (pc := 54) r0 0 dX13_keeps_54 rfl ?_
        refine dn_getR (pc := 55) r0 lRX13_20 dX13_keeps_55 (fun v6 => ?_)
        refine dn_iload_n (pc := 58) 2 dX13_keeps_58 rfl ?_
        refine dn_iald (pc := 59) v6 dX13_keeps_59 (fun v7 => ?_)
        refine dn_iast (pc := 60) v5 dX13_keeps_60 ?_
        refine dn_iinc (pc := 61) (s38 + 1) 2 dX13_keeps_61 rfl rfl (Nat.le_of_ble_eq_true rfl) (dnKp_nb 1 rfl rfl rfl (dnKp_of (lv2 := [(0, dnV b r0)]) [0] rfl rfl)) ?_
        refine dn_goto (pc := 64) 38 dX13_keeps_64 rfl ?_
        refine dn_leaf ?_
        exact dn_lv [2, 1, 0] rfl (hK38 (s38 + 1))
    · refine dn_iconst (pc := 67) (v := 0) dX13_keeps_67 rfl ?_
      refine dn_istore_n (pc := 68) dX13_keeps_68 (Nat.le_of_ble_eq_true rfl) (dnKp_nb 1 rfl rfl rfl (dnKp_of (lv2 := [(0, dnV b r0)]) [0] rfl rfl)) ?_
      refine dn_assoc ?_
      refine dn_lv [2, 1, 0] (lv2 := (fun s => [(0, dnV b r0), (1, .int p1), (2, .int s)]) 0) rfl ?_
      refine dn_loopE (pc := 69) (body := fX13_keeps_b69 r0 p1) 115 (fun s => [(0, dnV b r0), (1, .int p1), (2, .int s)]) (fun q => [(0, dnV b r0), (1, .int p1)]) (fun s69 K69 E69 hK69 hE69 => ?_) (fun q69 => ?_) 1000 0
      · unfold fX13_keeps_b69
        refine dn_iload_n (pc := 69) 2 dX13_keeps_69 rfl ?_
        refine dn_bipush (pc := 70) (v := 32) dX13_keeps_70 rfl ?_
        refine dn_icmp_ge (pc := 72) 115 dX13_keeps_72 rfl (fun _ => ?_) (fun _ => ?_)
        · refine dn_leaf ?_
          exact dn_lv [0, 1] rfl (hE69 ())
        · refine dn_aload_n (pc := 75) r0 0 dX13_keeps_75 rfl ?_
          refine dn_getR (pc := 76) r0 lRX13_79 dX13_keeps_76 (fun v8 => ?_)
          refine dn_bipush (pc := 79) (v := 32) dX13_keeps_79 rfl ?_
          refine dn_iload_n (pc := 81) 1 dX13_keeps_81 rfl ?_
          refine dn_imul (pc := 82) dX13_keeps_82 ?_
          refine dn_iload_n (pc := 83) 2 dX13_keeps_83 rfl ?_
          refine dn_iadd (pc := 84) dX13_keeps_84 ?_
          refine dn_aload_n (pc := 85) r0 0 dX13_keeps_85 rfl ?_
          refine dn_getR (pc := 86) r0 lRX13_23 dX13_keeps_86 (fun v9 => ?_)
          refine dn_iload_n (pc := 89) 2 dX13_keeps_89 rfl ?_
          refine dn_iald (pc := 90) v9 dX13_keeps_90 (fun v10 => ?_)
          refine dn_iast (pc := 91) v8 dX13_keeps_91 ?_
          refine dn_aload_n (pc := 92) r0 0 dX13_keeps_92 rfl ?_
          refine dn_getR (pc := 93) r0 lRX13_82 dX13_keeps_93 (fun v11 => ?_)
          refine dn_bipush (pc := 96) (v := 32) dX13_keeps_96 rfl ?_
          refine dn_iload_n (pc := 98) 1 dX13_keeps_98 rfl ?_
          refine dn_imul (pc := 99) dX13_keeps_99 ?_
          refine dn_iload_n (pc := 100) 2 dX13_keeps_100 rfl ?_
          refine dn_iadd (pc := 101) dX13_keeps_101 ?_
          refine dn_aload_n (pc := 102) r0 0 dX13_keeps_102 rfl ?_
          refine dn_getR (pc := 103) r0 lRX13_26 dX13_keeps_103 (fun v12 => ?_)
          refine dn_iload_n (pc := 106) 2 dX13_keeps_106 rfl ?_
          refine dn_iald (pc := 107) v12 dX13_keeps_107 (fun v13 => ?_)
          refine dn_iast (pc := 108) v11 dX13_keeps_108 ?_
          refine dn_iinc (pc := 109) (s69 + 1) 2 dX13_keeps_109 rfl rfl (Nat.le_of_ble_eq_true rfl) (dnKp_nb 1 rfl rfl rfl (dnKp_of (lv2 := [(0, dnV b r0)]) [0] rfl rfl)) ?_
          refine dn_goto (pc := 112) 69 dX13_keeps_112 rfl ?_
          refine dn_leaf ?_
          exact dn_lv [2, 1, 0] rfl (hK69 (s69 + 1))
      · refine dn_iconst (pc := 115) (v := 0) dX13_keeps_115 rfl ?_
        refine dn_istore_n (pc := 116) dX13_keeps_116 (Nat.le_of_ble_eq_true rfl) (dnKp_nb 1 rfl rfl rfl (dnKp_of (lv2 := [(0, dnV b r0)]) [0] rfl rfl)) ?_
        refine dn_assoc ?_
        refine dn_lv [2, 1, 0] (lv2 := (fun s => [(0, dnV b r0), (1, .int p1), (2, .int s)]) 0) rfl ?_
        refine dn_loopE (pc := 117) (body := fX13_keeps_b117 r0 p1) 184 (fun s => [(0, dnV b r0), (1, .int p1), (2, .int s)]) (fun q => []) (fun s117 K117 E117 hK117 hE117 => ?_) (fun q117 => ?_) 1000 0
        · unfold fX13_keeps_b117
          refine dn_iload_n (pc := 117) 2 dX13_keeps_117 rfl ?_
          refine dn_sipush (pc := 118) (v := 384) dX13_keeps_118 rfl ?_
          refine dn_icmp_ge (pc := 121) 184 dX13_keeps_121 rfl (fun _ => ?_) (fun _ => ?_)
          · refine dn_leaf ?_
            exact dn_lv [] rfl (hE117 ())
          · refine dn_aload_n (pc := 124) r0 0 dX13_keeps_124 rfl ?_
            refine dn_getR (pc := 125) r0 lRX13_85 dX13_keeps_125 (fun v14 => ?_)
            refine dn_sipush (pc := 128) (v := 384) dX13_keeps_128 rfl ?_
            refine dn_iload_n (pc := 131) 1 dX13_keeps_131 rfl ?_
            refine dn_imul (pc := 132) dX13_keeps_132 ?_
            refine dn_iload_n (pc := 133) 2 dX13_keeps_133 rfl ?_
            refine dn_iadd (pc := 134) dX13_keeps_134 ?_
            refine dn_aload_n (pc := 135) r0 0 dX13_keeps_135 rfl ?_
            refine dn_getR (pc := 136) r0 lRX13_32 dX13_keeps_136 (fun v15 => ?_)
            refine dn_iload_n (pc := 139) 2 dX13_keeps_139 rfl ?_
            refine dn_iald (pc := 140) v15 dX13_keeps_140 (fun v16 => ?_)
            refine dn_iast (pc := 141) v14 dX13_keeps_141 ?_
            refine dn_aload_n (pc := 142) r0 0 dX13_keeps_142 rfl ?_
            refine dn_getR (pc := 143) r0 lRX13_88 dX13_keeps_143 (fun v17 => ?_)
            refine dn_sipush (pc := 146) (v := 384) dX13_keeps_146 rfl ?_
            refine dn_iload_n (pc := 149) 1 dX13_keeps_149 rfl ?_
            refine dn_imul (pc := 150) dX13_keeps_150 ?_
            refine dn_iload_n (pc := 151) 2 dX13_keeps_151 rfl ?_
            refine dn_iadd (pc := 152) dX13_keeps_152 ?_
            refine dn_aload_n (pc := 153) r0 0 dX13_keeps_153 rfl ?_
            refine dn_getR (pc := 154) r0 lRX13_35 dX13_keeps_154 (fun v18 => ?_)
            refine dn_iload_n (pc := 157) 2 dX13_keeps_157 rfl ?_
            refine dn_lald (pc := 158) v18 dX13_keeps_158 (fun v19 => ?_)
            refine dn_last (pc := 159) v17 dX13_keeps_159 ?_
            refine dn_aload_n (pc := 160) r0 0 dX13_keeps_160 rfl ?_
            refine dn_getR (pc := 161) r0 lRX13_91 dX13_keeps_161 (fun v20 => ?_)
            refine dn_sipush (pc := 164) (v := 384) dX13_keeps_164 rfl ?_
            refine dn_iload_n (pc := 167) 1 dX13_keeps_167 rfl ?_
            refine dn_imul (pc := 168) dX13_keeps_168 ?_
            refine dn_iload_n (pc := 169) 2 dX13_keeps_169 rfl ?_
            refine dn_iadd (pc := 170) dX13_keeps_170 ?_
            refine dn_aload_n (pc := 171) r0 0 dX13_keeps_171 rfl ?_
            refine dn_getR (pc := 172) r0 lRX13_39 dX13_keeps_172 (fun v21 => ?_)
            refine dn_iload_n (pc := 175) 2 dX13_keeps_175 rfl ?_
            refine dn_dald (pc := 176) v21 dX13_keeps_176 (fun v22 => ?_)
            refine dn_dast (pc := 177) v20 dX13_keeps_177 ?_
            refine dn_iinc (pc := 178) (s117 + 1) 2 dX13_keeps_178 rfl rfl (Nat.le_of_ble_eq_true rfl) (dnKp_nb 1 rfl rfl rfl (dnKp_of (lv2 := [(0, dnV b r0)]) [0] rfl rfl)) ?_
            refine dn_goto (pc := 181) 117 dX13_keeps_181 rfl ?_
            refine dn_leaf ?_
            exact dn_lv [2, 1, 0] rfl (hK117 (s117 + 1))
        · exact dn_ret (Nat.le_of_ble_eq_true rfl) (Nat.le_of_ble_eq_true rfl) rfl dX13_keeps_184
abbrev rmX13_keep : Room := { frames := 2, cells := 0, slots := 0, locals := 43 }
def fX13_keep (r0 : Option Nat) (p1 : Int32) : dnM Int32 :=
  dnB (fX13_in p1 0 1) fun v1 =>
  if v1 = true then
  (dnB (dnCv r0 11 (fX13_keeps r0 p1)) fun _ =>
  dnB (dnCv r0 11 (fX13_gridMany r0)) fun v3 =>
  dnP v3)
  else
  (dnB (dnCv r0 11 (fX13_said r0 (-1))) fun v4 =>
  dnP v4)
abbrev jX13_keep (w : dnWd) (x : dnX) (b : Nat) := dnD w x b (fun _ => True) cX13_keep RX13 2 rmX13_keep "keep" eI
set_option maxHeartbeats 4000000 in
set_option maxRecDepth 100000 in
theorem mX13_keep (w : dnWd) (x : dnX) (b : Nat) (r0 : Option Nat) (p1 : Int32) : dnMt w x b yX13_keep cX13_keep 2 (some .int) rmX13_keep eI [dnV b r0, .int p1] (fX13_keep r0 p1) := by
  have hlv : lv_args 0 [dnV b r0, .int p1] = [(0, dnV b r0), (1, .int p1)] := by cases r0 <;> rfl
  refine dn_mt (by decide +kernel) roI (by cases r0 <;> exact (Nat.le_of_ble_eq_true rfl)) ?_
  rw [hlv]
  refine dn_top ?_
  show jX13_keep w x b 0 0 0 _ [] (dnB _ dnP)
  unfold fX13_keep
  refine dn_iload_n (pc := 0) 1 dX13_keep_0 rfl ?_
  refine dn_iconst (pc := 1) (v := 0) dX13_keep_1 rfl ?_
  refine dn_iconst (pc := 2) (v := 1) dX13_keep_2 rfl ?_
  refine dn_callS0Z (pc := 3) [.int p1, .int 0, .int 1]  kRX13_109 (mX13_in w x b p1 0 1) rfl rfl (Nat.le_of_ble_eq_true rfl) ⟨(Nat.le_of_ble_eq_true rfl), (Nat.le_of_ble_eq_true rfl)⟩ ⟨rfl, rfl, (Nat.le_of_ble_eq_true rfl), (Nat.le_of_ble_eq_true rfl)⟩ dX13_keep_3 (fun v1 => ?_)
  refine dn_ifz_ne (pc := 6) 15 dX13_keep_6 rfl (fun _ => ?_) (fun _ => ?_)
  · refine dn_aload_n (pc := 15) r0 0 dX13_keep_15 rfl ?_
    refine dn_iload_n (pc := 16) 1 dX13_keep_16 rfl ?_
    refine dn_callV0U (pc := 17) [.int p1] r0 kRX13_456 (mX13_keeps w x b r0 p1) rfl rfl (Nat.le_of_ble_eq_true rfl) ⟨(Nat.le_of_ble_eq_true rfl), (Nat.le_of_ble_eq_true rfl)⟩ ⟨rfl, rfl, (Nat.le_of_ble_eq_true rfl), (Nat.le_of_ble_eq_true rfl)⟩ dX13_keep_17 (fun _ => ?_)
    refine dn_aload_n (pc := 20) r0 0 dX13_keep_20 rfl ?_
    refine dn_callV0I (pc := 21) [] r0 kRX13_459 (mX13_gridMany w x b r0) rfl rfl (Nat.le_of_ble_eq_true rfl) ⟨(Nat.le_of_ble_eq_true rfl), (Nat.le_of_ble_eq_true rfl)⟩ ⟨rfl, rfl, (Nat.le_of_ble_eq_true rfl), (Nat.le_of_ble_eq_true rfl)⟩ dX13_keep_21 (fun v3 => ?_)
    exact dn_ret (Nat.le_of_ble_eq_true rfl) (Nat.le_of_ble_eq_true rfl) rfl dX13_keep_24
  · refine dn_aload_n (pc := 9) r0 0 dX13_keep_9 rfl ?_
    refine dn_iconst (pc := 10) (v := -1) dX13_keep_10 rfl ?_
    refine dn_callV0I (pc := 11) [.int (-1)] r0 kRX13_137 (mX13_said w x b r0 (-1)) rfl rfl (Nat.le_of_ble_eq_true rfl) ⟨(Nat.le_of_ble_eq_true rfl), (Nat.le_of_ble_eq_true rfl)⟩ ⟨rfl, rfl, (Nat.le_of_ble_eq_true rfl), (Nat.le_of_ble_eq_true rfl)⟩ dX13_keep_11 (fun v4 => ?_)
    exact dn_ret (Nat.le_of_ble_eq_true rfl) (Nat.le_of_ble_eq_true rfl) rfl dX13_keep_14
abbrev rmX13_kinds : Room := { frames := 2, cells := 0, slots := 0, locals := 42 }
def fX13_kinds_j45 (l0 : Option Nat) (l1 : Int32) (l3 : Int32) (s0 : Int32) (s1 : Bool) : dnM ((Int32 × Int32) ⊕ (Int32)) :=
  dnP (.inl ((s0 + (dnZ s1)), (l3 + 1)))
def fX13_kinds_j44 (l0 : Option Nat) (l1 : Int32) (l3 : Int32) (s0 : Int32) : dnM ((Int32 × Int32) ⊕ (Int32)) :=
  fX13_kinds_j45 l0 l1 l3 s0 false
def fX13_kinds_b13 (c0 : Option Nat) (c1 : Int32) (s13 : Int32 × Int32) : dnM ((Int32 × Int32) ⊕ (Int32)) :=
  if 32 ≤ s13.2 then
  (dnP (.inr s13.1))
  else
  (dnB (dnCv c0 11 (fX13_holder c0 s13.2)) fun v2 =>
  if v2 = (-9) then
  (fX13_kinds_j44 c0 c1 s13.2 s13.1)
  else
  (dnB (dnGR c0 11 6) fun v3 =>
  dnB (dnAI v3 100 s13.2) fun v4 =>
  if ¬ v4 = c1 then
  (fX13_kinds_j44 c0 c1 s13.2 s13.1)
  else
  (fX13_kinds_j45 c0 c1 s13.2 s13.1 true)))
def fX13_kinds (r0 : Option Nat) (p1 : Int32) : dnM Int32 :=
  dnB (fX13_isKind p1) fun v1 =>
  if v1 = true then
  (dnB (dnIt 1000 (fX13_kinds_b13 r0 p1) (0, 0)) fun q13 =>
  dnP q13)
  else
  (dnP (-1))
abbrev jX13_kinds (w : dnWd) (x : dnX) (b : Nat) := dnD w x b (fun _ => True) cX13_kinds RX13 4 rmX13_kinds "kinds" eI
set_option maxHeartbeats 4000000 in
set_option maxRecDepth 100000 in
theorem mX13_kinds (w : dnWd) (x : dnX) (b : Nat) (r0 : Option Nat) (p1 : Int32) : dnMt w x b yX13_kinds cX13_kinds 4 (some .int) rmX13_kinds eI [dnV b r0, .int p1] (fX13_kinds r0 p1) := by
  have hlv : lv_args 0 [dnV b r0, .int p1] = [(0, dnV b r0), (1, .int p1)] := by cases r0 <;> rfl
  refine dn_mt (by decide +kernel) roI (by cases r0 <;> exact (Nat.le_of_ble_eq_true rfl)) ?_
  rw [hlv]
  refine dn_top ?_
  show jX13_kinds w x b 0 0 0 _ [] (dnB _ dnP)
  unfold fX13_kinds
  refine dn_iload_n (pc := 0) 1 dX13_kinds_0 rfl ?_
  refine dn_callS0Z (pc := 1) [.int p1]  kRX13_152 (mX13_isKind w x b p1) rfl rfl (Nat.le_of_ble_eq_true rfl) ⟨(Nat.le_of_ble_eq_true rfl), (Nat.le_of_ble_eq_true rfl)⟩ ⟨rfl, rfl, (Nat.le_of_ble_eq_true rfl), (Nat.le_of_ble_eq_true rfl)⟩ dX13_kinds_1 (fun v1 => ?_)
  refine dn_ifz_ne (pc := 4) 9 dX13_kinds_4 rfl (fun _ => ?_) (fun _ => ?_)
  · refine dn_iconst (pc := 9) (v := 0) dX13_kinds_9 rfl ?_
    refine dn_istore_n (pc := 10) dX13_kinds_10 (Nat.le_of_ble_eq_true rfl) (dnKp_nb 1 rfl rfl rfl (dnKp_of (lv2 := [(0, dnV b r0)]) [0] rfl rfl)) ?_
    refine dn_iconst (pc := 11) (v := 0) dX13_kinds_11 rfl ?_
    refine dn_istore_n (pc := 12) dX13_kinds_12 (Nat.le_of_ble_eq_true rfl) (dnKp_nb 0 rfl rfl rfl (dnKp_of (lv2 := [(1, .int p1), (0, dnV b r0)]) [1, 2] rfl rfl)) ?_
    refine dn_assoc ?_
    refine dn_lv [3, 2, 1, 0] (lv2 := (fun s => [(0, dnV b r0), (1, .int p1), (2, .int s.1), (3, .int s.2)]) (0, 0)) rfl ?_
    refine dn_loopE (pc := 13) (body := fX13_kinds_b13 r0 p1) 53 (fun s => [(0, dnV b r0), (1, .int p1), (2, .int s.1), (3, .int s.2)]) (fun q => [(2, .int q)]) (fun s13 K13 E13 hK13 hE13 => ?_) (fun q13 => ?_) 1000 (0, 0)
    · unfold fX13_kinds_b13
      have hj45 : ∀ (l3 : Int32) (s0 : Int32) (s1 : Bool), jX13_kinds w x b 45 0 0 [(0, dnV b r0), (1, .int p1), (3, .int l3)] [.int (dnZ s1), .int s0] (dnB (fX13_kinds_j45 r0 p1 l3 s0 s1) (dnKo K13 E13)) := by
        intro l3 s0 s1
        unfold fX13_kinds_j45
        refine dn_iadd (pc := 45) dX13_kinds_45 ?_
        refine dn_istore_n (pc := 46) dX13_kinds_46 (Nat.le_of_ble_eq_true rfl) (dnKp_nb 1 rfl rfl rfl (dnKp_of (lv2 := [(0, dnV b r0), (3, .int l3)]) [0, 2] rfl rfl)) ?_
        refine dn_iinc (pc := 47) (l3 + 1) 3 dX13_kinds_47 rfl rfl (Nat.le_of_ble_eq_true rfl) (dnKp_nb 0 rfl rfl rfl (dnKp_of (lv2 := [(1, .int p1), (0, dnV b r0)]) [1, 2] rfl rfl)) ?_
        refine dn_goto (pc := 50) 13 dX13_kinds_50 rfl ?_
        refine dn_leaf ?_
        exact dn_lv [3, 2, 1, 0] rfl (hK13 ((s0 + (dnZ s1)), (l3 + 1)))
      have hj44 : ∀ (l3 : Int32) (s0 : Int32), jX13_kinds w x b 44 0 0 [(0, dnV b r0), (1, .int p1), (3, .int l3)] [.int s0] (dnB (fX13_kinds_j44 r0 p1 l3 s0) (dnKo K13 E13)) := by
        intro l3 s0
        unfold fX13_kinds_j44
        refine dn_iconst (pc := 44) (v := 0) dX13_kinds_44 rfl ?_
        exact dn_lv [0, 1, 2] rfl (hj45 l3 s0 false)
      refine dn_iload_n (pc := 13) 3 dX13_kinds_13 rfl ?_
      refine dn_bipush (pc := 14) (v := 32) dX13_kinds_14 rfl ?_
      refine dn_icmp_ge (pc := 16) 53 dX13_kinds_16 rfl (fun _ => ?_) (fun _ => ?_)
      · refine dn_leaf ?_
        exact dn_lv [2] rfl (hE13 s13.1)
      · refine dn_iload_n (pc := 19) 2 dX13_kinds_19 rfl ?_
        refine dn_aload_n (pc := 20) r0 0 dX13_kinds_20 rfl ?_
        refine dn_iload_n (pc := 21) 3 dX13_kinds_21 rfl ?_
        refine dn_callV0I (pc := 22) [.int s13.2] r0 kRX13_537 (mX13_holder w x b r0 s13.2) rfl rfl (Nat.le_of_ble_eq_true rfl) ⟨(Nat.le_of_ble_eq_true rfl), (Nat.le_of_ble_eq_true rfl)⟩ ⟨rfl, rfl, (Nat.le_of_ble_eq_true rfl), (Nat.le_of_ble_eq_true rfl)⟩ dX13_kinds_22 (fun v2 => ?_)
        refine dn_bipush (pc := 25) (v := -9) dX13_kinds_25 rfl ?_
        refine dn_icmp_eq (pc := 27) 44 dX13_kinds_27 rfl (fun _ => ?_) (fun _ => ?_)
        · exact dn_lv [0, 1, 3] rfl (hj44 s13.2 s13.1)
        · refine dn_aload_n (pc := 30) r0 0 dX13_kinds_30 rfl ?_
          refine dn_getR (pc := 31) r0 lRX13_23 dX13_kinds_31 (fun v3 => ?_)
          refine dn_iload_n (pc := 34) 3 dX13_kinds_34 rfl ?_
          refine dn_iald (pc := 35) v3 dX13_kinds_35 (fun v4 => ?_)
          refine dn_iload_n (pc := 36) 1 dX13_kinds_36 rfl ?_
          refine dn_icmp_ne (pc := 37) 44 dX13_kinds_37 rfl (fun _ => ?_) (fun _ => ?_)
          · exact dn_lv [0, 1, 3] rfl (hj44 s13.2 s13.1)
          · refine dn_iconst (pc := 40) (v := 1) dX13_kinds_40 rfl ?_
            refine dn_goto (pc := 41) 45 dX13_kinds_41 rfl ?_
            exact dn_lv [0, 1, 3] rfl (hj45 s13.2 s13.1 true)
    · refine dn_iload_n (pc := 53) 0 dX13_kinds_53 rfl ?_
      exact dn_ret (Nat.le_of_ble_eq_true rfl) (Nat.le_of_ble_eq_true rfl) rfl dX13_kinds_54
  · refine dn_iconst (pc := 7) (v := -1) dX13_kinds_7 rfl ?_
    exact dn_ret (Nat.le_of_ble_eq_true rfl) (Nat.le_of_ble_eq_true rfl) rfl dX13_kinds_8
abbrev rmX13_least : Room := { frames := 3, cells := 0, slots := 0, locals := 66 }
def fX13_least_j27 (l0 : Option Nat) : dnM Int32 :=
  dnB (dnCv l0 11 (fX13_said l0 (-1))) fun v1 =>
  dnP v1
def fX13_least (r0 : Option Nat) (p1 : Int32) (p2 : Int32) : dnM Int32 :=
  dnB (fX13_isKind p1) fun v2 =>
  if v2 = true then
  (dnB (fX13_isKind p2) fun v3 =>
  if v3 = true then
  (dnB (fX13_leastKind ((1 <<< (p1 &&& 31)) ||| (1 <<< (p2 &&& 31)))) fun v4 =>
  dnP v4)
  else
  (fX13_least_j27 r0))
  else
  (fX13_least_j27 r0)
abbrev jX13_least (w : dnWd) (x : dnX) (b : Nat) := dnD w x b (fun _ => True) cX13_least RX13 3 rmX13_least "least" eI
set_option maxHeartbeats 4000000 in
set_option maxRecDepth 100000 in
theorem mX13_least (w : dnWd) (x : dnX) (b : Nat) (r0 : Option Nat) (p1 : Int32) (p2 : Int32) : dnMt w x b yX13_least cX13_least 3 (some .int) rmX13_least eI [dnV b r0, .int p1, .int p2] (fX13_least r0 p1 p2) := by
  have hlv : lv_args 0 [dnV b r0, .int p1, .int p2] = [(0, dnV b r0), (1, .int p1), (2, .int p2)] := by cases r0 <;> rfl
  refine dn_mt (by decide +kernel) roI (by cases r0 <;> exact (Nat.le_of_ble_eq_true rfl)) ?_
  rw [hlv]
  refine dn_top ?_
  show jX13_least w x b 0 0 0 _ [] (dnB _ dnP)
  unfold fX13_least
  have hj27 : ∀ (l0 : Option Nat), jX13_least w x b 27 0 0 [(0, dnV b l0)] [] (dnB (fX13_least_j27 l0) dnP) := by
    intro l0
    unfold fX13_least_j27
    refine dn_aload_n (pc := 27) l0 0 dX13_least_27 rfl ?_
    refine dn_iconst (pc := 28) (v := -1) dX13_least_28 rfl ?_
    refine dn_callV0I (pc := 29) [.int (-1)] l0 kRX13_137 (mX13_said w x b l0 (-1)) rfl rfl (Nat.le_of_ble_eq_true rfl) ⟨(Nat.le_of_ble_eq_true rfl), (Nat.le_of_ble_eq_true rfl)⟩ ⟨rfl, rfl, (Nat.le_of_ble_eq_true rfl), (Nat.le_of_ble_eq_true rfl)⟩ dX13_least_29 (fun v1 => ?_)
    exact dn_ret (Nat.le_of_ble_eq_true rfl) (Nat.le_of_ble_eq_true rfl) rfl dX13_least_32
  refine dn_iload_n (pc := 0) 1 dX13_least_0 rfl ?_
  refine dn_callS0Z (pc := 1) [.int p1]  kRX13_152 (mX13_isKind w x b p1) rfl rfl (Nat.le_of_ble_eq_true rfl) ⟨(Nat.le_of_ble_eq_true rfl), (Nat.le_of_ble_eq_true rfl)⟩ ⟨rfl, rfl, (Nat.le_of_ble_eq_true rfl), (Nat.le_of_ble_eq_true rfl)⟩ dX13_least_1 (fun v2 => ?_)
  refine dn_ifz_eq (pc := 4) 27 dX13_least_4 rfl (fun _ => ?_) (fun _ => ?_)
  · refine dn_iload_n (pc := 7) 2 dX13_least_7 rfl ?_
    refine dn_callS0Z (pc := 8) [.int p2]  kRX13_152 (mX13_isKind w x b p2) rfl rfl (Nat.le_of_ble_eq_true rfl) ⟨(Nat.le_of_ble_eq_true rfl), (Nat.le_of_ble_eq_true rfl)⟩ ⟨rfl, rfl, (Nat.le_of_ble_eq_true rfl), (Nat.le_of_ble_eq_true rfl)⟩ dX13_least_8 (fun v3 => ?_)
    refine dn_ifz_eq (pc := 11) 27 dX13_least_11 rfl (fun _ => ?_) (fun _ => ?_)
    · refine dn_iconst (pc := 14) (v := 1) dX13_least_14 rfl ?_
      refine dn_iload_n (pc := 15) 1 dX13_least_15 rfl ?_
      refine dn_ishl (pc := 16) dX13_least_16 ?_
      refine dn_iconst (pc := 17) (v := 1) dX13_least_17 rfl ?_
      refine dn_iload_n (pc := 18) 2 dX13_least_18 rfl ?_
      refine dn_ishl (pc := 19) dX13_least_19 ?_
      refine dn_ior (pc := 20) dX13_least_20 ?_
      refine dn_callS0I (pc := 21) [.int ((1 <<< (p1 &&& 31)) ||| (1 <<< (p2 &&& 31)))]  kRX13_294 (mX13_leastKind w x b ((1 <<< (p1 &&& 31)) ||| (1 <<< (p2 &&& 31)))) rfl rfl (Nat.le_of_ble_eq_true rfl) ⟨(Nat.le_of_ble_eq_true rfl), (Nat.le_of_ble_eq_true rfl)⟩ ⟨rfl, rfl, (Nat.le_of_ble_eq_true rfl), (Nat.le_of_ble_eq_true rfl)⟩ dX13_least_21 (fun v4 => ?_)
      refine dn_goto (pc := 24) 32 dX13_least_24 rfl ?_
      exact dn_ret (Nat.le_of_ble_eq_true rfl) (Nat.le_of_ble_eq_true rfl) rfl dX13_least_32
    · exact dn_lv [0] rfl (hj27 r0)
  · exact dn_lv [0] rfl (hj27 r0)
abbrev rmX13_leftSet : Room := { frames := 3, cells := 0, slots := 0, locals := 64 }
def fX13_leftSet_j82 (l0 : Option Nat) (l2 : Int32) (s0 : Int32) (s1 : Int32) : dnM ((Int32 × Int32) ⊕ (Int32)) :=
  dnP (.inl ((s0 ||| s1), (l2 + 1)))
def fX13_leftSet_j63 (l0 : Option Nat) (l1 : Int32) (l2 : Int32) (l4 : Int32) (s0 : Bool) : dnM ((Bool × Int32) ⊕ (Bool)) :=
  dnP (.inl (s0, (l4 + 1)))
def fX13_leftSet_j62 (l0 : Option Nat) (l1 : Int32) (l2 : Int32) (l4 : Int32) : dnM ((Bool × Int32) ⊕ (Bool)) :=
  fX13_leftSet_j63 l0 l1 l2 l4 false
def fX13_leftSet_j55 (l0 : Option Nat) (l1 : Int32) (l2 : Int32) (l4 : Int32) (s0 : Bool) (s1 : Bool) : dnM ((Bool × Int32) ⊕ (Bool)) :=
  if ¬ (dnZ s0) = (dnZ s1) then
  (fX13_leftSet_j62 l0 l1 l2 l4)
  else
  (fX13_leftSet_j63 l0 l1 l2 l4 true)
def fX13_leftSet_b15 (c0 : Option Nat) (c1 : Int32) (c2 : Int32) (s15 : Bool × Int32) : dnM ((Bool × Int32) ⊕ (Bool)) :=
  dnB (dnGI c0 11 43) fun v1 =>
  if v1 ≤ s15.2 then
  (dnP (.inr s15.1))
  else
  (if s15.1 = true then
  (dnB (dnGR c0 11 44) fun v2 =>
  dnB (dnAI v2 100 s15.2) fun v3 =>
  dnB (fX13_isTaken v3 c2) fun v4 =>
  dnB (dnGR c0 11 45) fun v5 =>
  dnB (dnAI v5 100 s15.2) fun v6 =>
  if ¬ v6 = 1 then
  (fX13_leftSet_j55 c0 c1 c2 s15.2 v4 false)
  else
  (fX13_leftSet_j55 c0 c1 c2 s15.2 v4 true))
  else
  (fX13_leftSet_j62 c0 c1 c2 s15.2))
def fX13_leftSet_b4 (c0 : Option Nat) (s4 : Int32 × Int32) : dnM ((Int32 × Int32) ⊕ (Int32)) :=
  if 11 < s4.2 then
  (dnP (.inr s4.1))
  else
  (dnB (dnIt 1000 (fX13_leftSet_b15 c0 s4.1 s4.2) (true, 0)) fun q15 =>
  if q15 = true then
  (fX13_leftSet_j82 c0 s4.2 s4.1 (1 <<< (s4.2 &&& 31)))
  else
  (fX13_leftSet_j82 c0 s4.2 s4.1 0))
def fX13_leftSet (r0 : Option Nat) : dnM Int32 :=
  dnB (dnIt 1000 (fX13_leftSet_b4 r0) (0, 0)) fun q4 =>
  dnP q4
abbrev jX13_leftSet (w : dnWd) (x : dnX) (b : Nat) := dnD w x b (fun _ => True) cX13_leftSet RX13 5 rmX13_leftSet "leftSet" eI
set_option maxHeartbeats 4000000 in
set_option maxRecDepth 100000 in
theorem mX13_leftSet (w : dnWd) (x : dnX) (b : Nat) (r0 : Option Nat) : dnMt w x b yX13_leftSet cX13_leftSet 5 (some .int) rmX13_leftSet eI [dnV b r0] (fX13_leftSet r0) := by
  have hlv : lv_args 0 [dnV b r0] = [(0, dnV b r0)] := by cases r0 <;> rfl
  refine dn_mt (by decide +kernel) roI (by cases r0 <;> exact (Nat.le_of_ble_eq_true rfl)) ?_
  rw [hlv]
  refine dn_top ?_
  show jX13_leftSet w x b 0 0 0 _ [] (dnB _ dnP)
  unfold fX13_leftSet
  refine dn_iconst (pc := 0) (v := 0) dX13_leftSet_0 rfl ?_
  refine dn_istore_n (pc := 1) dX13_leftSet_1 (Nat.le_of_ble_eq_true rfl) (dnKp_nb 0 rfl (dn_cat b _) rfl (dnKp_of (lv2 := []) [] rfl rfl)) ?_
  refine dn_iconst (pc := 2) (v := 0) dX13_leftSet_2 rfl ?_
  refine dn_istore_n (pc := 3) dX13_leftSet_3 (Nat.le_of_ble_eq_true rfl) (dnKp_nb 0 rfl rfl rfl (dnKp_of (lv2 := [(0, dnV b r0)]) [1] rfl rfl)) ?_
  refine dn_assoc ?_
  refine dn_lv [2, 1, 0] (lv2 := (fun s => [(0, dnV b r0), (1, .int s.1), (2, .int s.2)]) (0, 0)) rfl ?_
  refine dn_loopE (pc := 4) (body := fX13_leftSet_b4 r0) 90 (fun s => [(0, dnV b r0), (1, .int s.1), (2, .int s.2)]) (fun q => [(1, .int q)]) (fun s4 K4 E4 hK4 hE4 => ?_) (fun q4 => ?_) 1000 (0, 0)
  · unfold fX13_leftSet_b4
    have hj82 : ∀ (l2 : Int32) (s0 : Int32) (s1 : Int32), jX13_leftSet w x b 82 0 0 [(0, dnV b r0), (2, .int l2)] [.int s1, .int s0] (dnB (fX13_leftSet_j82 r0 l2 s0 s1) (dnKo K4 E4)) := by
      intro l2 s0 s1
      unfold fX13_leftSet_j82
      refine dn_ior (pc := 82) dX13_leftSet_82 ?_
      refine dn_istore_n (pc := 83) dX13_leftSet_83 (Nat.le_of_ble_eq_true rfl) (dnKp_nb 0 rfl (dn_cat b _) rfl (dnKp_of (lv2 := [(2, .int l2)]) [1] rfl rfl)) ?_
      refine dn_iinc (pc := 84) (l2 + 1) 2 dX13_leftSet_84 rfl rfl (Nat.le_of_ble_eq_true rfl) (dnKp_nb 0 rfl rfl rfl (dnKp_of (lv2 := [(0, dnV b r0)]) [1] rfl rfl)) ?_
      refine dn_goto (pc := 87) 4 dX13_leftSet_87 rfl ?_
      refine dn_leaf ?_
      exact dn_lv [2, 1, 0] rfl (hK4 ((s0 ||| s1), (l2 + 1)))
    refine dn_iload_n (pc := 4) 2 dX13_leftSet_4 rfl ?_
    refine dn_bipush (pc := 5) (v := 11) dX13_leftSet_5 rfl ?_
    refine dn_icmp_gt (pc := 7) 90 dX13_leftSet_7 rfl (fun _ => ?_) (fun _ => ?_)
    · refine dn_leaf ?_
      exact dn_lv [1] rfl (hE4 s4.1)
    · refine dn_iconst (pc := 10) (v := 1) dX13_leftSet_10 rfl ?_
      refine dn_istore_n (pc := 11) dX13_leftSet_11 (Nat.le_of_ble_eq_true rfl) (dnKp_nb 2 rfl rfl rfl (dnKp_of (lv2 := [(0, dnV b r0), (1, .int s4.1)]) [0, 1] rfl rfl)) ?_
      refine dn_iconst (pc := 12) (v := 0) dX13_leftSet_12 rfl ?_
      refine dn_istore (pc := 13) dX13_leftSet_13 (Nat.le_of_ble_eq_true rfl) (dnKp_nb 0 rfl rfl rfl (dnKp_of (lv2 := [(2, .int s4.2), (0, dnV b r0), (1, .int s4.1)]) [1, 2, 3] rfl rfl)) ?_
      refine dn_assoc ?_
      refine dn_lv [3, 4, 2, 1, 0] (lv2 := (fun s => [(0, dnV b r0), (1, .int s4.1), (2, .int s4.2), (3, .int (dnZ s.1)), (4, .int s.2)]) (true, 0)) rfl ?_
      refine dn_loopE (pc := 15) (body := fX13_leftSet_b15 r0 s4.1 s4.2) 70 (fun s => [(0, dnV b r0), (1, .int s4.1), (2, .int s4.2), (3, .int (dnZ s.1)), (4, .int s.2)]) (fun q => [(0, dnV b r0), (1, .int s4.1), (2, .int s4.2), (3, .int (dnZ q))]) (fun s15 K15 E15 hK15 hE15 => ?_) (fun q15 => ?_) 1000 (true, 0)
      · unfold fX13_leftSet_b15
        have hj63 : ∀ (l4 : Int32) (s0 : Bool), jX13_leftSet w x b 63 0 0 [(0, dnV b r0), (1, .int s4.1), (2, .int s4.2), (4, .int l4)] [.int (dnZ s0)] (dnB (fX13_leftSet_j63 r0 s4.1 s4.2 l4 s0) (dnKo K15 E15)) := by
          intro l4 s0
          unfold fX13_leftSet_j63
          refine dn_istore_n (pc := 63) dX13_leftSet_63 (Nat.le_of_ble_eq_true rfl) (dnKp_nb 2 rfl rfl rfl (dnKp_of (lv2 := [(0, dnV b r0), (1, .int s4.1), (4, .int l4)]) [0, 1, 3] rfl rfl)) ?_
          refine dn_iinc (pc := 64) (l4 + 1) 4 dX13_leftSet_64 rfl rfl (Nat.le_of_ble_eq_true rfl) (dnKp_nb 0 rfl rfl rfl (dnKp_of (lv2 := [(2, .int s4.2), (0, dnV b r0), (1, .int s4.1)]) [1, 2, 3] rfl rfl)) ?_
          refine dn_goto (pc := 67) 15 dX13_leftSet_67 rfl ?_
          refine dn_leaf ?_
          exact dn_lv [3, 4, 2, 1, 0] rfl (hK15 (s0, (l4 + 1)))
        have hj62 : ∀ (l4 : Int32), jX13_leftSet w x b 62 0 0 [(0, dnV b r0), (1, .int s4.1), (2, .int s4.2), (4, .int l4)] [] (dnB (fX13_leftSet_j62 r0 s4.1 s4.2 l4) (dnKo K15 E15)) := by
          intro l4
          unfold fX13_leftSet_j62
          refine dn_iconst (pc := 62) (v := 0) dX13_leftSet_62 rfl ?_
          exact dn_lv [0, 1, 2, 3] rfl (hj63 l4 false)
        have hj55 : ∀ (l4 : Int32) (s0 : Bool) (s1 : Bool), jX13_leftSet w x b 55 0 0 [(0, dnV b r0), (1, .int s4.1), (2, .int s4.2), (4, .int l4)] [.int (dnZ s1), .int (dnZ s0)] (dnB (fX13_leftSet_j55 r0 s4.1 s4.2 l4 s0 s1) (dnKo K15 E15)) := by
          intro l4 s0 s1
          unfold fX13_leftSet_j55
          refine dn_icmp_ne (pc := 55) 62 dX13_leftSet_55 rfl (fun _ => ?_) (fun _ => ?_)
          · exact dn_lv [0, 1, 2, 3] rfl (hj62 l4)
          · refine dn_iconst (pc := 58) (v := 1) dX13_leftSet_58 rfl ?_
            refine dn_goto (pc := 59) 63 dX13_leftSet_59 rfl ?_
            exact dn_lv [0, 1, 2, 3] rfl (hj63 l4 true)
        refine dn_iload (pc := 15) 4 dX13_leftSet_15 rfl ?_
        refine dn_aload_n (pc := 17) r0 0 dX13_leftSet_17 rfl ?_
        refine dn_getI (pc := 18) r0 lRX13_531 dX13_leftSet_18 (fun v1 => ?_)
        refine dn_icmp_ge (pc := 21) 70 dX13_leftSet_21 rfl (fun _ => ?_) (fun _ => ?_)
        · refine dn_leaf ?_
          exact dn_lv [0, 1, 2, 3] rfl (hE15 s15.1)
        · refine dn_iload_n (pc := 24) 3 dX13_leftSet_24 rfl ?_
          refine dn_ifz_eq (pc := 25) 62 dX13_leftSet_25 rfl (fun _ => ?_) (fun _ => ?_)
          · refine dn_aload_n (pc := 28) r0 0 dX13_leftSet_28 rfl ?_
            refine dn_getR (pc := 29) r0 lRX13_103 dX13_leftSet_29 (fun v2 => ?_)
            refine dn_iload (pc := 32) 4 dX13_leftSet_32 rfl ?_
            refine dn_iald (pc := 34) v2 dX13_leftSet_34 (fun v3 => ?_)
            refine dn_iload_n (pc := 35) 2 dX13_leftSet_35 rfl ?_
            refine dn_callS0Z (pc := 36) [.int v3, .int s4.2]  kRX13_528 (mX13_isTaken w x b v3 s4.2) rfl rfl (Nat.le_of_ble_eq_true rfl) ⟨(Nat.le_of_ble_eq_true rfl), (Nat.le_of_ble_eq_true rfl)⟩ ⟨rfl, rfl, (Nat.le_of_ble_eq_true rfl), (Nat.le_of_ble_eq_true rfl)⟩ dX13_leftSet_36 (fun v4 => ?_)
            refine dn_aload_n (pc := 39) r0 0 dX13_leftSet_39 rfl ?_
            refine dn_getR (pc := 40) r0 lRX13_106 dX13_leftSet_40 (fun v5 => ?_)
            refine dn_iload (pc := 43) 4 dX13_leftSet_43 rfl ?_
            refine dn_iald (pc := 45) v5 dX13_leftSet_45 (fun v6 => ?_)
            refine dn_iconst (pc := 46) (v := 1) dX13_leftSet_46 rfl ?_
            refine dn_icmp_ne (pc := 47) 54 dX13_leftSet_47 rfl (fun _ => ?_) (fun _ => ?_)
            · refine dn_iconst (pc := 54) (v := 0) dX13_leftSet_54 rfl ?_
              exact dn_lv [0, 1, 2, 4] rfl (hj55 s15.2 v4 false)
            · refine dn_iconst (pc := 50) (v := 1) dX13_leftSet_50 rfl ?_
              refine dn_goto (pc := 51) 55 dX13_leftSet_51 rfl ?_
              exact dn_lv [0, 1, 2, 4] rfl (hj55 s15.2 v4 true)
          · exact dn_lv [0, 1, 2, 4] rfl (hj62 s15.2)
      · refine dn_iload_n (pc := 70) 1 dX13_leftSet_70 rfl ?_
        refine dn_iload_n (pc := 71) 3 dX13_leftSet_71 rfl ?_
        refine dn_ifz_eq (pc := 72) 81 dX13_leftSet_72 rfl (fun _ => ?_) (fun _ => ?_)
        · refine dn_iconst (pc := 75) (v := 1) dX13_leftSet_75 rfl ?_
          refine dn_iload_n (pc := 76) 2 dX13_leftSet_76 rfl ?_
          refine dn_ishl (pc := 77) dX13_leftSet_77 ?_
          refine dn_goto (pc := 78) 82 dX13_leftSet_78 rfl ?_
          exact dn_lv [0, 2] rfl (hj82 s4.2 s4.1 (1 <<< (s4.2 &&& 31)))
        · refine dn_iconst (pc := 81) (v := 0) dX13_leftSet_81 rfl ?_
          exact dn_lv [0, 2] rfl (hj82 s4.2 s4.1 0)
  · refine dn_iload_n (pc := 90) 0 dX13_leftSet_90 rfl ?_
    exact dn_ret (Nat.le_of_ble_eq_true rfl) (Nat.le_of_ble_eq_true rfl) rfl dX13_leftSet_91
abbrev rmX13_left : Room := { frames := 4, cells := 0, slots := 0, locals := 88 }
def fX13_left (r0 : Option Nat) : dnM Int32 :=
  dnB (dnCv r0 11 (fX13_leftSet r0)) fun v1 =>
  dnP v1
abbrev jX13_left (w : dnWd) (x : dnX) (b : Nat) := dnD w x b (fun _ => True) cX13_left RX13 1 rmX13_left "left" eI
set_option maxHeartbeats 4000000 in
set_option maxRecDepth 100000 in
theorem mX13_left (w : dnWd) (x : dnX) (b : Nat) (r0 : Option Nat) : dnMt w x b yX13_left cX13_left 1 (some .int) rmX13_left eI [dnV b r0] (fX13_left r0) := by
  have hlv : lv_args 0 [dnV b r0] = [(0, dnV b r0)] := by cases r0 <;> rfl
  refine dn_mt (by decide +kernel) roI (by cases r0 <;> exact (Nat.le_of_ble_eq_true rfl)) ?_
  rw [hlv]
  refine dn_top ?_
  show jX13_left w x b 0 0 0 _ [] (dnB _ dnP)
  unfold fX13_left
  refine dn_aload_n (pc := 0) r0 0 dX13_left_0 rfl ?_
  refine dn_callV0I (pc := 1) [] r0 kRX13_534 (mX13_leftSet w x b r0) rfl rfl (Nat.le_of_ble_eq_true rfl) ⟨(Nat.le_of_ble_eq_true rfl), (Nat.le_of_ble_eq_true rfl)⟩ ⟨rfl, rfl, (Nat.le_of_ble_eq_true rfl), (Nat.le_of_ble_eq_true rfl)⟩ dX13_left_1 (fun v1 => ?_)
  exact dn_ret (Nat.le_of_ble_eq_true rfl) (Nat.le_of_ble_eq_true rfl) rfl dX13_left_4
abbrev rmX13_liesAnswer : Room := { frames := 5, cells := 0, slots := 0, locals := 121 }
def fX13_liesAnswer_j116 (l0 : Option Nat) (l1 : Int32) (l2 : Int32) (l3 : Int32) (l4 : Int32) (l5 : Int32) (l6 : Int32) (l7 : Int32) : dnM ((Int32 × Int32 × Int32) ⊕ (Int32 × Int32)) :=
  dnP (.inl (l4, l5, (l7 + 1)))
def fX13_liesAnswer_j111 (l0 : Option Nat) (l1 : Int32) (l2 : Int32) (l3 : Int32) (l4 : Int32) (l6 : Int32) (l7 : Int32) (s0 : Int32) : dnM ((Int32 × Int32 × Int32) ⊕ (Int32 × Int32)) :=
  fX13_liesAnswer_j116 l0 l1 l2 l3 (l4 + 1) s0 l6 l7
def fX13_liesAnswer_b72 (c0 : Option Nat) (c1 : Int32) (c2 : Int32) (c3 : Int32) (c6 : Int32) (s72 : Int32 × Int32 × Int32) : dnM ((Int32 × Int32 × Int32) ⊕ (Int32 × Int32)) :=
  if 12 ≤ s72.2.2 then
  (dnP (.inr (s72.1, s72.2.1)))
  else
  (dnB (dnCv c0 11 (fX13_isLying c0 c1 c2 c6 s72.2.2)) fun v11 =>
  if v11 = true then
  (if ¬ s72.1 = c3 then
  (fX13_liesAnswer_j111 c0 c1 c2 c3 s72.1 c6 s72.2.2 s72.2.1)
  else
  (fX13_liesAnswer_j111 c0 c1 c2 c3 s72.1 c6 s72.2.2 ((100 * c6) + s72.2.2)))
  else
  (fX13_liesAnswer_j116 c0 c1 c2 c3 s72.1 s72.2.1 c6 s72.2.2))
def fX13_liesAnswer_b51 (c0 : Option Nat) (c1 : Int32) (c2 : Int32) (c3 : Int32) (s51 : Int32 × Int32 × Int32) : dnM ((Int32 × Int32 × Int32) ⊕ (Int32 × Int32)) :=
  dnB (dnGR c0 11 4) fun v7 =>
  dnB (dnAI v7 100 c2) fun v8 =>
  dnB (dnGR c0 11 4) fun v9 =>
  dnB (dnAI v9 100 c1) fun v10 =>
  if v10 < (s51.2.2 + v8) then
  (dnP (.inr (s51.1, s51.2.1)))
  else
  (dnB (dnIt 1000 (fX13_liesAnswer_b72 c0 c1 c2 c3 s51.2.2) (s51.1, s51.2.1, 0)) fun q72 =>
  dnP (.inl (q72.1, q72.2, (s51.2.2 + 1))))
def fX13_liesAnswer (r0 : Option Nat) (p1 : Int32) (p2 : Int32) (p3 : Int32) : dnM Int32 :=
  dnB (fX13_isGrid p1) fun v1 =>
  if v1 = true then
  (dnB (fX13_isGrid p2) fun v2 =>
  if v2 = true then
  (if 0 ≤ p3 then
  (dnB (dnGR r0 11 4) fun v3 =>
  dnB (dnAI v3 100 p1) fun v4 =>
  if v4 < 0 then
  (dnP (-2))
  else
  (dnB (dnGR r0 11 4) fun v5 =>
  dnB (dnAI v5 100 p2) fun v6 =>
  if 0 ≤ v6 then
  (dnB (dnIt 1000 (fX13_liesAnswer_b51 r0 p1 p2 p3) (0, (-9), 0)) fun q51 =>
  if ¬ q51.2 = (-9) then
  (dnB (dnCv r0 11 (fX13_tells r0 ((q51.1 : Int32).toInt64) q51.2)) fun v12 =>
  dnP v12)
  else
  (dnP (-9)))
  else
  (dnP (-2))))
  else
  (dnP (-1)))
  else
  (dnP (-1)))
  else
  (dnP (-1))
abbrev jX13_liesAnswer (w : dnWd) (x : dnX) (b : Nat) := dnD w x b (fun _ => True) cX13_liesAnswer RX13 8 rmX13_liesAnswer "liesAnswer" eI
set_option maxHeartbeats 4000000 in
set_option maxRecDepth 100000 in
theorem mX13_liesAnswer (w : dnWd) (x : dnX) (b : Nat) (r0 : Option Nat) (p1 : Int32) (p2 : Int32) (p3 : Int32) : dnMt w x b yX13_liesAnswer cX13_liesAnswer 8 (some .int) rmX13_liesAnswer eI [dnV b r0, .int p1, .int p2, .int p3] (fX13_liesAnswer r0 p1 p2 p3) := by
  have hlv : lv_args 0 [dnV b r0, .int p1, .int p2, .int p3] = [(0, dnV b r0), (1, .int p1), (2, .int p2), (3, .int p3)] := by cases r0 <;> rfl
  refine dn_mt (by decide +kernel) roI (by cases r0 <;> exact (Nat.le_of_ble_eq_true rfl)) ?_
  rw [hlv]
  refine dn_top ?_
  show jX13_liesAnswer w x b 0 0 0 _ [] (dnB _ dnP)
  unfold fX13_liesAnswer
  refine dn_iload_n (pc := 0) 1 dX13_liesAnswer_0 rfl ?_
  refine dn_callS0Z (pc := 1) [.int p1]  kRX13_134 (mX13_isGrid w x b p1) rfl rfl (Nat.le_of_ble_eq_true rfl) ⟨(Nat.le_of_ble_eq_true rfl), (Nat.le_of_ble_eq_true rfl)⟩ ⟨rfl, rfl, (Nat.le_of_ble_eq_true rfl), (Nat.le_of_ble_eq_true rfl)⟩ dX13_liesAnswer_1 (fun v1 => ?_)
  refine dn_ifz_eq (pc := 4) 18 dX13_liesAnswer_4 rfl (fun _ => ?_) (fun _ => ?_)
  · refine dn_iload_n (pc := 7) 2 dX13_liesAnswer_7 rfl ?_
    refine dn_callS0Z (pc := 8) [.int p2]  kRX13_134 (mX13_isGrid w x b p2) rfl rfl (Nat.le_of_ble_eq_true rfl) ⟨(Nat.le_of_ble_eq_true rfl), (Nat.le_of_ble_eq_true rfl)⟩ ⟨rfl, rfl, (Nat.le_of_ble_eq_true rfl), (Nat.le_of_ble_eq_true rfl)⟩ dX13_liesAnswer_8 (fun v2 => ?_)
    refine dn_ifz_eq (pc := 11) 18 dX13_liesAnswer_11 rfl (fun _ => ?_) (fun _ => ?_)
    · refine dn_iload_n (pc := 14) 3 dX13_liesAnswer_14 rfl ?_
      refine dn_if_ge (pc := 15) 20 dX13_liesAnswer_15 rfl (fun _ => ?_) (fun _ => ?_)
      · refine dn_aload_n (pc := 20) r0 0 dX13_liesAnswer_20 rfl ?_
        refine dn_getR (pc := 21) r0 lRX13_17 dX13_liesAnswer_21 (fun v3 => ?_)
        refine dn_iload_n (pc := 24) 1 dX13_liesAnswer_24 rfl ?_
        refine dn_iald (pc := 25) v3 dX13_liesAnswer_25 (fun v4 => ?_)
        refine dn_if_lt (pc := 26) 38 dX13_liesAnswer_26 rfl (fun _ => ?_) (fun _ => ?_)
        · refine dn_bipush (pc := 38) (v := -2) dX13_liesAnswer_38 rfl ?_
          exact dn_ret (Nat.le_of_ble_eq_true rfl) (Nat.le_of_ble_eq_true rfl) rfl dX13_liesAnswer_40
        · refine dn_aload_n (pc := 29) r0 0 dX13_liesAnswer_29 rfl ?_
          refine dn_getR (pc := 30) r0 lRX13_17 dX13_liesAnswer_30 (fun v5 => ?_)
          refine dn_iload_n (pc := 33) 2 dX13_liesAnswer_33 rfl ?_
          refine dn_iald (pc := 34) v5 dX13_liesAnswer_34 (fun v6 => ?_)
          refine dn_if_ge (pc := 35) 41 dX13_liesAnswer_35 rfl (fun _ => ?_) (fun _ => ?_)
          · refine dn_iconst (pc := 41) (v := 0) dX13_liesAnswer_41 rfl ?_
            refine dn_istore (pc := 42) dX13_liesAnswer_42 (Nat.le_of_ble_eq_true rfl) (dnKp_nb 3 rfl rfl rfl (dnKp_of (lv2 := [(0, dnV b r0), (1, .int p1), (2, .int p2)]) [0, 1, 2] rfl rfl)) ?_
            refine dn_bipush (pc := 44) (v := -9) dX13_liesAnswer_44 rfl ?_
            refine dn_istore (pc := 46) dX13_liesAnswer_46 (Nat.le_of_ble_eq_true rfl) (dnKp_nb 0 rfl rfl rfl (dnKp_of (lv2 := [(3, .int p3), (0, dnV b r0), (1, .int p1), (2, .int p2)]) [1, 2, 3, 4] rfl rfl)) ?_
            refine dn_iconst (pc := 48) (v := 0) dX13_liesAnswer_48 rfl ?_
            refine dn_istore (pc := 49) dX13_liesAnswer_49 (Nat.le_of_ble_eq_true rfl) (dnKp_nb 0 rfl rfl rfl (dnKp_of (lv2 := [(4, .int 0), (3, .int p3), (0, dnV b r0), (1, .int p1), (2, .int p2)]) [1, 2, 3, 4, 5] rfl rfl)) ?_
            refine dn_assoc ?_
            refine dn_lv [4, 5, 6, 3, 2, 1, 0] (lv2 := (fun s => [(0, dnV b r0), (1, .int p1), (2, .int p2), (3, .int p3), (4, .int s.1), (5, .int s.2.1), (6, .int s.2.2)]) (0, (-9), 0)) rfl ?_
            refine dn_loopE (pc := 51) (body := fX13_liesAnswer_b51 r0 p1 p2 p3) 128 (fun s => [(0, dnV b r0), (1, .int p1), (2, .int p2), (3, .int p3), (4, .int s.1), (5, .int s.2.1), (6, .int s.2.2)]) (fun q => [(0, dnV b r0), (4, .int q.1), (5, .int q.2)]) (fun s51 K51 E51 hK51 hE51 => ?_) (fun q51 => ?_) 1000 (0, (-9), 0)
            · unfold fX13_liesAnswer_b51
              refine dn_iload (pc := 51) 6 dX13_liesAnswer_51 rfl ?_
              refine dn_aload_n (pc := 53) r0 0 dX13_liesAnswer_53 rfl ?_
              refine dn_getR (pc := 54) r0 lRX13_17 dX13_liesAnswer_54 (fun v7 => ?_)
              refine dn_iload_n (pc := 57) 2 dX13_liesAnswer_57 rfl ?_
              refine dn_iald (pc := 58) v7 dX13_liesAnswer_58 (fun v8 => ?_)
              refine dn_iadd (pc := 59) dX13_liesAnswer_59 ?_
              refine dn_aload_n (pc := 60) r0 0 dX13_liesAnswer_60 rfl ?_
              refine dn_getR (pc := 61) r0 lRX13_17 dX13_liesAnswer_61 (fun v9 => ?_)
              refine dn_iload_n (pc := 64) 1 dX13_liesAnswer_64 rfl ?_
              refine dn_iald (pc := 65) v9 dX13_liesAnswer_65 (fun v10 => ?_)
              refine dn_icmp_gt (pc := 66) 128 dX13_liesAnswer_66 rfl (fun _ => ?_) (fun _ => ?_)
              · refine dn_leaf ?_
                exact dn_lv [0, 4, 5] rfl (hE51 (s51.1, s51.2.1))
              · refine dn_iconst (pc := 69) (v := 0) dX13_liesAnswer_69 rfl ?_
                refine dn_istore (pc := 70) dX13_liesAnswer_70 (Nat.le_of_ble_eq_true rfl) (dnKp_nb 6 rfl rfl rfl (dnKp_of (lv2 := [(0, dnV b r0), (1, .int p1), (2, .int p2), (3, .int p3), (4, .int s51.1), (5, .int s51.2.1)]) [0, 1, 2, 3, 4, 5] rfl rfl)) ?_
                refine dn_assoc ?_
                refine dn_lv [2, 3, 4, 5, 6, 7, 1, 0] (lv2 := (fun s => [(0, dnV b r0), (1, .int p1), (2, .int p2), (3, .int p3), (4, .int s.1), (5, .int s.2.1), (6, .int s51.2.2), (7, .int s.2.2)]) (s51.1, s51.2.1, 0)) rfl ?_
                refine dn_loopE (pc := 72) (body := fX13_liesAnswer_b72 r0 p1 p2 p3 s51.2.2) 122 (fun s => [(0, dnV b r0), (1, .int p1), (2, .int p2), (3, .int p3), (4, .int s.1), (5, .int s.2.1), (6, .int s51.2.2), (7, .int s.2.2)]) (fun q => [(0, dnV b r0), (1, .int p1), (2, .int p2), (3, .int p3), (4, .int q.1), (5, .int q.2), (6, .int s51.2.2)]) (fun s72 K72 E72 hK72 hE72 => ?_) (fun q72 => ?_) 1000 (s51.1, s51.2.1, 0)
                · unfold fX13_liesAnswer_b72
                  have hj116 : ∀ (l4 : Int32) (l5 : Int32) (l7 : Int32), jX13_liesAnswer w x b 116 0 0 [(0, dnV b r0), (1, .int p1), (2, .int p2), (3, .int p3), (4, .int l4), (5, .int l5), (6, .int s51.2.2), (7, .int l7)] [] (dnB (fX13_liesAnswer_j116 r0 p1 p2 p3 l4 l5 s51.2.2 l7) (dnKo K72 E72)) := by
                    intro l4 l5 l7
                    unfold fX13_liesAnswer_j116
                    refine dn_iinc (pc := 116) (l7 + 1) 7 dX13_liesAnswer_116 rfl rfl (Nat.le_of_ble_eq_true rfl) (dnKp_nb 6 rfl rfl rfl (dnKp_of (lv2 := [(0, dnV b r0), (1, .int p1), (2, .int p2), (3, .int p3), (4, .int l4), (5, .int l5)]) [0, 1, 2, 3, 4, 5] rfl rfl)) ?_
                    refine dn_goto (pc := 119) 72 dX13_liesAnswer_119 rfl ?_
                    refine dn_leaf ?_
                    exact dn_lv [2, 3, 4, 5, 6, 7, 1, 0] rfl (hK72 (l4, l5, (l7 + 1)))
                  have hj111 : ∀ (l4 : Int32) (l7 : Int32) (s0 : Int32), jX13_liesAnswer w x b 111 0 0 [(0, dnV b r0), (1, .int p1), (2, .int p2), (3, .int p3), (4, .int l4), (6, .int s51.2.2), (7, .int l7)] [.int s0] (dnB (fX13_liesAnswer_j111 r0 p1 p2 p3 l4 s51.2.2 l7 s0) (dnKo K72 E72)) := by
                    intro l4 l7 s0
                    unfold fX13_liesAnswer_j111
                    refine dn_istore (pc := 111) dX13_liesAnswer_111 (Nat.le_of_ble_eq_true rfl) (dnKp_nb 4 rfl rfl rfl (dnKp_of (lv2 := [(0, dnV b r0), (1, .int p1), (2, .int p2), (3, .int p3), (6, .int s51.2.2), (7, .int l7)]) [0, 1, 2, 3, 5, 6] rfl rfl)) ?_
                    refine dn_iinc (pc := 113) (l4 + 1) 1 dX13_liesAnswer_113 rfl rfl (Nat.le_of_ble_eq_true rfl) (dnKp_nb 5 rfl rfl rfl (dnKp_of (lv2 := [(5, .int s0), (0, dnV b r0), (1, .int p1), (2, .int p2), (6, .int s51.2.2), (7, .int l7)]) [0, 2, 3, 4, 6, 7] rfl rfl)) ?_
                    exact dn_lv [3, 4, 5, 1, 0, 2, 6, 7] rfl (hj116 (l4 + 1) s0 l7)
                  refine dn_iload (pc := 72) 7 dX13_liesAnswer_72 rfl ?_
                  refine dn_bipush (pc := 74) (v := 12) dX13_liesAnswer_74 rfl ?_
                  refine dn_icmp_ge (pc := 76) 122 dX13_liesAnswer_76 rfl (fun _ => ?_) (fun _ => ?_)
                  · refine dn_leaf ?_
                    exact dn_lv [0, 1, 2, 3, 4, 5, 6] rfl (hE72 (s72.1, s72.2.1))
                  · refine dn_aload_n (pc := 79) r0 0 dX13_liesAnswer_79 rfl ?_
                    refine dn_iload_n (pc := 80) 1 dX13_liesAnswer_80 rfl ?_
                    refine dn_iload_n (pc := 81) 2 dX13_liesAnswer_81 rfl ?_
                    refine dn_iload (pc := 82) 6 dX13_liesAnswer_82 rfl ?_
                    refine dn_iload (pc := 84) 7 dX13_liesAnswer_84 rfl ?_
                    refine dn_callV0Z (pc := 86) [.int p1, .int p2, .int s51.2.2, .int s72.2.2] r0 kRX13_450 (mX13_isLying w x b r0 p1 p2 s51.2.2 s72.2.2) rfl rfl (Nat.le_of_ble_eq_true rfl) ⟨(Nat.le_of_ble_eq_true rfl), (Nat.le_of_ble_eq_true rfl)⟩ ⟨rfl, rfl, (Nat.le_of_ble_eq_true rfl), (Nat.le_of_ble_eq_true rfl)⟩ dX13_liesAnswer_86 (fun v11 => ?_)
                    refine dn_ifz_eq (pc := 89) 116 dX13_liesAnswer_89 rfl (fun _ => ?_) (fun _ => ?_)
                    · refine dn_iload (pc := 92) 4 dX13_liesAnswer_92 rfl ?_
                      refine dn_iload_n (pc := 94) 3 dX13_liesAnswer_94 rfl ?_
                      refine dn_icmp_ne (pc := 95) 109 dX13_liesAnswer_95 rfl (fun _ => ?_) (fun _ => ?_)
                      · refine dn_iload (pc := 109) 5 dX13_liesAnswer_109 rfl ?_
                        exact dn_lv [0, 1, 2, 3, 4, 6, 7] rfl (hj111 s72.1 s72.2.2 s72.2.1)
                      · refine dn_bipush (pc := 98) (v := 100) dX13_liesAnswer_98 rfl ?_
                        refine dn_iload (pc := 100) 6 dX13_liesAnswer_100 rfl ?_
                        refine dn_imul (pc := 102) dX13_liesAnswer_102 ?_
                        refine dn_iload (pc := 103) 7 dX13_liesAnswer_103 rfl ?_
                        refine dn_iadd (pc := 105) dX13_liesAnswer_105 ?_
                        refine dn_goto (pc := 106) 111 dX13_liesAnswer_106 rfl ?_
                        exact dn_lv [0, 1, 2, 3, 4, 6, 7] rfl (hj111 s72.1 s72.2.2 ((100 * s51.2.2) + s72.2.2))
                    · exact dn_lv [0, 1, 2, 3, 4, 5, 6, 7] rfl (hj116 s72.1 s72.2.1 s72.2.2)
                · refine dn_iinc (pc := 122) (s51.2.2 + 1) 6 dX13_liesAnswer_122 rfl rfl (Nat.le_of_ble_eq_true rfl) (dnKp_nb 5 rfl rfl rfl (dnKp_of (lv2 := [(0, dnV b r0), (1, .int p1), (2, .int p2), (3, .int p3), (4, .int q72.1)]) [0, 1, 2, 3, 4] rfl rfl)) ?_
                  refine dn_goto (pc := 125) 51 dX13_liesAnswer_125 rfl ?_
                  refine dn_leaf ?_
                  exact dn_lv [2, 3, 4, 5, 6, 1, 0] rfl (hK51 (q72.1, q72.2, (s51.2.2 + 1)))
            · refine dn_iload (pc := 128) 2 dX13_liesAnswer_128 rfl ?_
              refine dn_bipush (pc := 130) (v := -9) dX13_liesAnswer_130 rfl ?_
              refine dn_icmp_ne (pc := 132) 140 dX13_liesAnswer_132 rfl (fun _ => ?_) (fun _ => ?_)
              · refine dn_aload_n (pc := 140) r0 0 dX13_liesAnswer_140 rfl ?_
                refine dn_iload (pc := 141) 1 dX13_liesAnswer_141 rfl ?_
                refine dn_i2l (pc := 143) dX13_liesAnswer_143 ?_
                refine dn_iload (pc := 144) 2 dX13_liesAnswer_144 rfl ?_
                refine dn_callV0I (pc := 146) [.long ((q51.1 : Int32).toInt64), .int q51.2] r0 kRX13_243 (mX13_tells w x b r0 ((q51.1 : Int32).toInt64) q51.2) rfl rfl (Nat.le_of_ble_eq_true rfl) ⟨(Nat.le_of_ble_eq_true rfl), (Nat.le_of_ble_eq_true rfl)⟩ ⟨rfl, rfl, (Nat.le_of_ble_eq_true rfl), (Nat.le_of_ble_eq_true rfl)⟩ dX13_liesAnswer_146 (fun v12 => ?_)
                exact dn_ret (Nat.le_of_ble_eq_true rfl) (Nat.le_of_ble_eq_true rfl) rfl dX13_liesAnswer_149
              · refine dn_bipush (pc := 135) (v := -9) dX13_liesAnswer_135 rfl ?_
                refine dn_goto (pc := 137) 149 dX13_liesAnswer_137 rfl ?_
                exact dn_ret (Nat.le_of_ble_eq_true rfl) (Nat.le_of_ble_eq_true rfl) rfl dX13_liesAnswer_149
          · refine dn_bipush (pc := 38) (v := -2) dX13_liesAnswer_38 rfl ?_
            exact dn_ret (Nat.le_of_ble_eq_true rfl) (Nat.le_of_ble_eq_true rfl) rfl dX13_liesAnswer_40
      · refine dn_iconst (pc := 18) (v := -1) dX13_liesAnswer_18 rfl ?_
        exact dn_ret (Nat.le_of_ble_eq_true rfl) (Nat.le_of_ble_eq_true rfl) rfl dX13_liesAnswer_19
    · refine dn_iconst (pc := 18) (v := -1) dX13_liesAnswer_18 rfl ?_
      exact dn_ret (Nat.le_of_ble_eq_true rfl) (Nat.le_of_ble_eq_true rfl) rfl dX13_liesAnswer_19
  · refine dn_iconst (pc := 18) (v := -1) dX13_liesAnswer_18 rfl ?_
    exact dn_ret (Nat.le_of_ble_eq_true rfl) (Nat.le_of_ble_eq_true rfl) rfl dX13_liesAnswer_19
abbrev rmX13_lies : Room := { frames := 6, cells := 0, slots := 0, locals := 148 }
def fX13_lies (r0 : Option Nat) (p1 : Int32) (p2 : Int32) (p3 : Int32) : dnM Int32 :=
  dnB (dnCv r0 11 (fX13_liesAnswer r0 p1 p2 p3)) fun v1 =>
  dnB (dnCv r0 11 (fX13_said r0 v1)) fun v2 =>
  dnP v2
abbrev jX13_lies (w : dnWd) (x : dnX) (b : Nat) := dnD w x b (fun _ => True) cX13_lies RX13 4 rmX13_lies "lies" eI
set_option maxHeartbeats 4000000 in
set_option maxRecDepth 100000 in
theorem mX13_lies (w : dnWd) (x : dnX) (b : Nat) (r0 : Option Nat) (p1 : Int32) (p2 : Int32) (p3 : Int32) : dnMt w x b yX13_lies cX13_lies 4 (some .int) rmX13_lies eI [dnV b r0, .int p1, .int p2, .int p3] (fX13_lies r0 p1 p2 p3) := by
  have hlv : lv_args 0 [dnV b r0, .int p1, .int p2, .int p3] = [(0, dnV b r0), (1, .int p1), (2, .int p2), (3, .int p3)] := by cases r0 <;> rfl
  refine dn_mt (by decide +kernel) roI (by cases r0 <;> exact (Nat.le_of_ble_eq_true rfl)) ?_
  rw [hlv]
  refine dn_top ?_
  show jX13_lies w x b 0 0 0 _ [] (dnB _ dnP)
  unfold fX13_lies
  refine dn_aload_n (pc := 0) r0 0 dX13_lies_0 rfl ?_
  refine dn_aload_n (pc := 1) r0 0 dX13_lies_1 rfl ?_
  refine dn_iload_n (pc := 2) 1 dX13_lies_2 rfl ?_
  refine dn_iload_n (pc := 3) 2 dX13_lies_3 rfl ?_
  refine dn_iload_n (pc := 4) 3 dX13_lies_4 rfl ?_
  refine dn_callV0I (pc := 5) [.int p1, .int p2, .int p3] r0 kRX13_453 (mX13_liesAnswer w x b r0 p1 p2 p3) rfl rfl (Nat.le_of_ble_eq_true rfl) ⟨(Nat.le_of_ble_eq_true rfl), (Nat.le_of_ble_eq_true rfl)⟩ ⟨rfl, rfl, (Nat.le_of_ble_eq_true rfl), (Nat.le_of_ble_eq_true rfl)⟩ dX13_lies_5 (fun v1 => ?_)
  refine dn_callV0I (pc := 8) [.int v1] r0 kRX13_137 (mX13_said w x b r0 v1) rfl rfl (Nat.le_of_ble_eq_true rfl) ⟨(Nat.le_of_ble_eq_true rfl), (Nat.le_of_ble_eq_true rfl)⟩ ⟨rfl, rfl, (Nat.le_of_ble_eq_true rfl), (Nat.le_of_ble_eq_true rfl)⟩ dX13_lies_8 (fun v2 => ?_)
  exact dn_ret (Nat.le_of_ble_eq_true rfl) (Nat.le_of_ble_eq_true rfl) rfl dX13_lies_11
abbrev rmX13_next : Room := { frames := 4, cells := 0, slots := 0, locals := 88 }
def fX13_next_b9 (c0 : Option Nat) (c1 : Int32) (s9 : Int32 × Int32) : dnM ((Int32 × Int32) ⊕ (Int32)) :=
  if 11 < s9.2 then
  (dnP (.inr s9.1))
  else
  (dnP (.inl ((s9.1 + ((c1 >>> (s9.2 &&& 31)) &&& 1)), (s9.2 + 1))))
def fX13_next_j152 (l0 : Option Nat) (l1 : Int32) (l2 : Int32) (l3 : Int32) (l5 : Int32) (s0 : Int32) : dnM ((Int32 × Int32 × Int32) ⊕ (Int32 × Int32)) :=
  dnP (.inl (l3, s0, (l5 + 1)))
def fX13_next_j137 (l0 : Option Nat) (l1 : Int32) (l2 : Int32) (l4 : Int32) (l5 : Int32) (l7 : Int32) (s0 : Int32) : dnM ((Int32 × Int32 × Int32) ⊕ (Int32 × Int32)) :=
  if l4 ≤ l7 then
  (fX13_next_j152 l0 l1 l2 s0 l5 l4)
  else
  (fX13_next_j152 l0 l1 l2 s0 l5 l7)
def fX13_next_j122 (l0 : Option Nat) (l1 : Int32) (l2 : Int32) (l3 : Int32) (l4 : Int32) (l5 : Int32) (s0 : Int32) : dnM ((Int32 × Int32 × Int32) ⊕ (Int32 × Int32)) :=
  if l4 ≤ s0 then
  (fX13_next_j137 l0 l1 l2 l4 l5 s0 l3)
  else
  (fX13_next_j137 l0 l1 l2 l4 l5 s0 l5)
def fX13_next_j95 (l0 : Option Nat) (l1 : Int32) (l2 : Int32) (l3 : Int32) (l4 : Int32) (l5 : Int32) (l7 : Int32) (s0 : Int32) (s1 : Bool) : dnM ((Int32 × Int32) ⊕ (Int32)) :=
  dnP (.inl ((s0 + (dnZ s1)), (l7 + 1)))
def fX13_next_j94 (l0 : Option Nat) (l1 : Int32) (l2 : Int32) (l3 : Int32) (l4 : Int32) (l5 : Int32) (l7 : Int32) (s0 : Int32) : dnM ((Int32 × Int32) ⊕ (Int32)) :=
  fX13_next_j95 l0 l1 l2 l3 l4 l5 l7 s0 false
def fX13_next_b61 (c0 : Option Nat) (c1 : Int32) (c2 : Int32) (c3 : Int32) (c4 : Int32) (c5 : Int32) (s61 : Int32 × Int32) : dnM ((Int32 × Int32) ⊕ (Int32)) :=
  if 11 < s61.2 then
  (dnP (.inr s61.1))
  else
  (if ¬ ((c1 >>> (s61.2 &&& 31)) &&& 1) = 1 then
  (fX13_next_j94 c0 c1 c2 c3 c4 c5 s61.2 s61.1)
  else
  (dnB (fX13_isTaken c5 s61.2) fun v2 =>
  if v2 = true then
  (fX13_next_j95 c0 c1 c2 c3 c4 c5 s61.2 s61.1 true)
  else
  (fX13_next_j94 c0 c1 c2 c3 c4 c5 s61.2 s61.1)))
def fX13_next_b48 (c0 : Option Nat) (c1 : Int32) (c2 : Int32) (s48 : Int32 × Int32 × Int32) : dnM ((Int32 × Int32 × Int32) ⊕ (Int32 × Int32)) :=
  if 28 ≤ s48.2.2 then
  (dnP (.inr (s48.1, s48.2.1)))
  else
  (dnB (dnIt 1000 (fX13_next_b61 c0 c1 c2 s48.1 s48.2.1 s48.2.2) (0, 0)) fun q61 =>
  if q61 ≤ (c2 - q61) then
  (fX13_next_j122 c0 c1 c2 s48.1 s48.2.1 s48.2.2 (c2 - q61))
  else
  (fX13_next_j122 c0 c1 c2 s48.1 s48.2.1 s48.2.2 q61))
def fX13_next (r0 : Option Nat) : dnM Int32 :=
  dnB (dnCv r0 11 (fX13_leftSet r0)) fun v1 =>
  dnB (dnIt 1000 (fX13_next_b9 r0 v1) (0, 0)) fun q9 =>
  if 2 ≤ q9 then
  (dnB (dnIt 1000 (fX13_next_b48 r0 v1 q9) ((-9), (q9 + 1), 0)) fun q48 =>
  dnB (dnCv r0 11 (fX13_tells r0 ((q48.2 : Int32).toInt64) q48.1)) fun v3 =>
  dnP v3)
  else
  (dnP (-9))
abbrev jX13_next (w : dnWd) (x : dnX) (b : Nat) := dnD w x b (fun _ => True) cX13_next RX13 8 rmX13_next "next" eI
set_option maxHeartbeats 4000000 in
set_option maxRecDepth 100000 in
theorem mX13_next (w : dnWd) (x : dnX) (b : Nat) (r0 : Option Nat) : dnMt w x b yX13_next cX13_next 8 (some .int) rmX13_next eI [dnV b r0] (fX13_next r0) := by
  have hlv : lv_args 0 [dnV b r0] = [(0, dnV b r0)] := by cases r0 <;> rfl
  refine dn_mt (by decide +kernel) roI (by cases r0 <;> exact (Nat.le_of_ble_eq_true rfl)) ?_
  rw [hlv]
  refine dn_top ?_
  show jX13_next w x b 0 0 0 _ [] (dnB _ dnP)
  unfold fX13_next
  refine dn_aload_n (pc := 0) r0 0 dX13_next_0 rfl ?_
  refine dn_callV0I (pc := 1) [] r0 kRX13_534 (mX13_leftSet w x b r0) rfl rfl (Nat.le_of_ble_eq_true rfl) ⟨(Nat.le_of_ble_eq_true rfl), (Nat.le_of_ble_eq_true rfl)⟩ ⟨rfl, rfl, (Nat.le_of_ble_eq_true rfl), (Nat.le_of_ble_eq_true rfl)⟩ dX13_next_1 (fun v1 => ?_)
  refine dn_istore_n (pc := 4) dX13_next_4 (Nat.le_of_ble_eq_true rfl) (dnKp_nb 0 rfl (dn_cat b _) rfl (dnKp_of (lv2 := []) [] rfl rfl)) ?_
  refine dn_iconst (pc := 5) (v := 0) dX13_next_5 rfl ?_
  refine dn_istore_n (pc := 6) dX13_next_6 (Nat.le_of_ble_eq_true rfl) (dnKp_nb 0 rfl rfl rfl (dnKp_of (lv2 := [(0, dnV b r0)]) [1] rfl rfl)) ?_
  refine dn_iconst (pc := 7) (v := 0) dX13_next_7 rfl ?_
  refine dn_istore_n (pc := 8) dX13_next_8 (Nat.le_of_ble_eq_true rfl) (dnKp_nb 0 rfl rfl rfl (dnKp_of (lv2 := [(1, .int v1), (0, dnV b r0)]) [1, 2] rfl rfl)) ?_
  refine dn_assoc ?_
  refine dn_lv [3, 2, 1, 0] (lv2 := (fun s => [(0, dnV b r0), (1, .int v1), (2, .int s.1), (3, .int s.2)]) (0, 0)) rfl ?_
  refine dn_loopE (pc := 9) (body := fX13_next_b9 r0 v1) 29 (fun s => [(0, dnV b r0), (1, .int v1), (2, .int s.1), (3, .int s.2)]) (fun q => [(0, dnV b r0), (1, .int v1), (2, .int q)]) (fun s9 K9 E9 hK9 hE9 => ?_) (fun q9 => ?_) 1000 (0, 0)
  · unfold fX13_next_b9
    refine dn_iload_n (pc := 9) 3 dX13_next_9 rfl ?_
    refine dn_bipush (pc := 10) (v := 11) dX13_next_10 rfl ?_
    refine dn_icmp_gt (pc := 12) 29 dX13_next_12 rfl (fun _ => ?_) (fun _ => ?_)
    · refine dn_leaf ?_
      exact dn_lv [0, 1, 2] rfl (hE9 s9.1)
    · refine dn_iload_n (pc := 15) 2 dX13_next_15 rfl ?_
      refine dn_iload_n (pc := 16) 1 dX13_next_16 rfl ?_
      refine dn_iload_n (pc := 17) 3 dX13_next_17 rfl ?_
      refine dn_ishr (pc := 18) dX13_next_18 ?_
      refine dn_iconst (pc := 19) (v := 1) dX13_next_19 rfl ?_
      refine dn_iand (pc := 20) dX13_next_20 ?_
      refine dn_iadd (pc := 21) dX13_next_21 ?_
      refine dn_istore_n (pc := 22) dX13_next_22 (Nat.le_of_ble_eq_true rfl) (dnKp_nb 1 rfl rfl rfl (dnKp_of (lv2 := [(0, dnV b r0), (3, .int s9.2)]) [0, 3] rfl rfl)) ?_
      refine dn_iinc (pc := 23) (s9.2 + 1) 3 dX13_next_23 rfl rfl (Nat.le_of_ble_eq_true rfl) (dnKp_nb 0 rfl rfl rfl (dnKp_of (lv2 := [(1, .int v1), (0, dnV b r0)]) [1, 2] rfl rfl)) ?_
      refine dn_goto (pc := 26) 9 dX13_next_26 rfl ?_
      refine dn_leaf ?_
      exact dn_lv [3, 2, 1, 0] rfl (hK9 ((s9.1 + ((v1 >>> (s9.2 &&& 31)) &&& 1)), (s9.2 + 1)))
  · refine dn_iload_n (pc := 29) 2 dX13_next_29 rfl ?_
    refine dn_iconst (pc := 30) (v := 2) dX13_next_30 rfl ?_
    refine dn_icmp_ge (pc := 31) 37 dX13_next_31 rfl (fun _ => ?_) (fun _ => ?_)
    · refine dn_bipush (pc := 37) (v := -9) dX13_next_37 rfl ?_
      refine dn_istore_n (pc := 39) dX13_next_39 (Nat.le_of_ble_eq_true rfl) (dnKp_nb 2 rfl rfl rfl (dnKp_of (lv2 := [(0, dnV b r0), (1, .int v1)]) [0, 1] rfl rfl)) ?_
      refine dn_iload_n (pc := 40) 1 dX13_next_40 rfl ?_
      refine dn_iconst (pc := 41) (v := 1) dX13_next_41 rfl ?_
      refine dn_iadd (pc := 42) dX13_next_42 ?_
      refine dn_istore (pc := 43) dX13_next_43 (Nat.le_of_ble_eq_true rfl) (dnKp_nb 0 rfl rfl rfl (dnKp_of (lv2 := [(2, .int q9), (0, dnV b r0), (1, .int v1)]) [1, 2, 3] rfl rfl)) ?_
      refine dn_iconst (pc := 45) (v := 0) dX13_next_45 rfl ?_
      refine dn_istore (pc := 46) dX13_next_46 (Nat.le_of_ble_eq_true rfl) (dnKp_nb 0 rfl rfl rfl (dnKp_of (lv2 := [(3, .int (-9)), (2, .int q9), (0, dnV b r0), (1, .int v1)]) [1, 2, 3, 4] rfl rfl)) ?_
      refine dn_assoc ?_
      refine dn_lv [4, 5, 3, 2, 1, 0] (lv2 := (fun s => [(0, dnV b r0), (1, .int v1), (2, .int q9), (3, .int s.1), (4, .int s.2.1), (5, .int s.2.2)]) ((-9), (q9 + 1), 0)) rfl ?_
      refine dn_loopE (pc := 48) (body := fX13_next_b48 r0 v1 q9) 160 (fun s => [(0, dnV b r0), (1, .int v1), (2, .int q9), (3, .int s.1), (4, .int s.2.1), (5, .int s.2.2)]) (fun q => [(0, dnV b r0), (3, .int q.1), (4, .int q.2)]) (fun s48 K48 E48 hK48 hE48 => ?_) (fun q48 => ?_) 1000 ((-9), (q9 + 1), 0)
      · unfold fX13_next_b48
        have hj152 : ∀ (l3 : Int32) (l5 : Int32) (s0 : Int32), jX13_next w x b 152 0 0 [(0, dnV b r0), (1, .int v1), (2, .int q9), (3, .int l3), (5, .int l5)] [.int s0] (dnB (fX13_next_j152 r0 v1 q9 l3 l5 s0) (dnKo K48 E48)) := by
          intro l3 l5 s0
          unfold fX13_next_j152
          refine dn_istore (pc := 152) dX13_next_152 (Nat.le_of_ble_eq_true rfl) (dnKp_nb 3 rfl rfl rfl (dnKp_of (lv2 := [(0, dnV b r0), (1, .int v1), (2, .int q9), (5, .int l5)]) [0, 1, 2, 4] rfl rfl)) ?_
          refine dn_iinc (pc := 154) (l5 + 1) 5 dX13_next_154 rfl rfl (Nat.le_of_ble_eq_true rfl) (dnKp_nb 0 rfl rfl rfl (dnKp_of (lv2 := [(3, .int l3), (0, dnV b r0), (1, .int v1), (2, .int q9)]) [1, 2, 3, 4] rfl rfl)) ?_
          refine dn_goto (pc := 157) 48 dX13_next_157 rfl ?_
          refine dn_leaf ?_
          exact dn_lv [3, 4, 5, 2, 1, 0] rfl (hK48 (l3, s0, (l5 + 1)))
        have hj137 : ∀ (l4 : Int32) (l5 : Int32) (l7 : Int32) (s0 : Int32), jX13_next w x b 137 0 0 [(0, dnV b r0), (1, .int v1), (2, .int q9), (4, .int l4), (5, .int l5), (7, .int l7)] [.int s0] (dnB (fX13_next_j137 r0 v1 q9 l4 l5 l7 s0) (dnKo K48 E48)) := by
          intro l4 l5 l7 s0
          unfold fX13_next_j137
          refine dn_istore_n (pc := 137) dX13_next_137 (Nat.le_of_ble_eq_true rfl) (dnKp_nb 2 rfl rfl rfl (dnKp_of (lv2 := [(0, dnV b r0), (1, .int v1), (4, .int l4), (5, .int l5), (7, .int l7)]) [0, 1, 3, 4, 5] rfl rfl)) ?_
          refine dn_iload (pc := 138) 6 dX13_next_138 rfl ?_
          refine dn_iload (pc := 140) 4 dX13_next_140 rfl ?_
          refine dn_icmp_ge (pc := 142) 150 dX13_next_142 rfl (fun _ => ?_) (fun _ => ?_)
          · refine dn_iload (pc := 150) 4 dX13_next_150 rfl ?_
            exact dn_lv [2, 3, 1, 0, 5] rfl (hj152 s0 l5 l4)
          · refine dn_iload (pc := 145) 6 dX13_next_145 rfl ?_
            refine dn_goto (pc := 147) 152 dX13_next_147 rfl ?_
            exact dn_lv [2, 3, 1, 0, 5] rfl (hj152 s0 l5 l7)
        have hj122 : ∀ (l3 : Int32) (l4 : Int32) (l5 : Int32) (s0 : Int32), jX13_next w x b 122 0 0 [(0, dnV b r0), (1, .int v1), (2, .int q9), (3, .int l3), (4, .int l4), (5, .int l5)] [.int s0] (dnB (fX13_next_j122 r0 v1 q9 l3 l4 l5 s0) (dnKo K48 E48)) := by
          intro l3 l4 l5 s0
          unfold fX13_next_j122
          refine dn_istore (pc := 122) dX13_next_122 (Nat.le_of_ble_eq_true rfl) (dnKp_of (lv2 := [(0, dnV b r0), (1, .int v1), (2, .int q9), (3, .int l3), (4, .int l4), (5, .int l5)]) [0, 1, 2, 3, 4, 5] rfl rfl) ?_
          refine dn_iload (pc := 124) 0 dX13_next_124 rfl ?_
          refine dn_iload (pc := 126) 5 dX13_next_126 rfl ?_
          refine dn_icmp_ge (pc := 128) 136 dX13_next_128 rfl (fun _ => ?_) (fun _ => ?_)
          · refine dn_iload_n (pc := 136) 4 dX13_next_136 rfl ?_
            exact dn_lv [1, 2, 3, 5, 6, 0] rfl (hj137 l4 l5 s0 l3)
          · refine dn_iload (pc := 131) 6 dX13_next_131 rfl ?_
            refine dn_goto (pc := 133) 137 dX13_next_133 rfl ?_
            exact dn_lv [1, 2, 3, 5, 6, 0] rfl (hj137 l4 l5 s0 l5)
        refine dn_iload (pc := 48) 5 dX13_next_48 rfl ?_
        refine dn_bipush (pc := 50) (v := 28) dX13_next_50 rfl ?_
        refine dn_icmp_ge (pc := 52) 160 dX13_next_52 rfl (fun _ => ?_) (fun _ => ?_)
        · refine dn_leaf ?_
          exact dn_lv [0, 3, 4] rfl (hE48 (s48.1, s48.2.1))
        · refine dn_iconst (pc := 55) (v := 0) dX13_next_55 rfl ?_
          refine dn_istore (pc := 56) dX13_next_56 (Nat.le_of_ble_eq_true rfl) (dnKp_nb 5 rfl rfl rfl (dnKp_of (lv2 := [(0, dnV b r0), (1, .int v1), (2, .int q9), (3, .int s48.1), (4, .int s48.2.1)]) [0, 1, 2, 3, 4] rfl rfl)) ?_
          refine dn_iconst (pc := 58) (v := 0) dX13_next_58 rfl ?_
          refine dn_istore (pc := 59) dX13_next_59 (Nat.le_of_ble_eq_true rfl) (dnKp_nb 0 rfl rfl rfl (dnKp_of (lv2 := [(5, .int s48.2.2), (0, dnV b r0), (1, .int v1), (2, .int q9), (3, .int s48.1), (4, .int s48.2.1)]) [1, 2, 3, 4, 5, 6] rfl rfl)) ?_
          refine dn_assoc ?_
          refine dn_lv [3, 4, 5, 6, 7, 2, 1, 0] (lv2 := (fun s => [(0, dnV b r0), (1, .int v1), (2, .int q9), (3, .int s48.1), (4, .int s48.2.1), (5, .int s48.2.2), (6, .int s.1), (7, .int s.2)]) (0, 0)) rfl ?_
          refine dn_loopE (pc := 61) (body := fX13_next_b61 r0 v1 q9 s48.1 s48.2.1 s48.2.2) 104 (fun s => [(0, dnV b r0), (1, .int v1), (2, .int q9), (3, .int s48.1), (4, .int s48.2.1), (5, .int s48.2.2), (6, .int s.1), (7, .int s.2)]) (fun q => [(0, dnV b r0), (1, .int v1), (2, .int q9), (3, .int s48.1), (4, .int s48.2.1), (5, .int s48.2.2), (6, .int q)]) (fun s61 K61 E61 hK61 hE61 => ?_) (fun q61 => ?_) 1000 (0, 0)
          · unfold fX13_next_b61
            have hj95 : ∀ (l7 : Int32) (s0 : Int32) (s1 : Bool), jX13_next w x b 95 0 0 [(0, dnV b r0), (1, .int v1), (2, .int q9), (3, .int s48.1), (4, .int s48.2.1), (5, .int s48.2.2), (7, .int l7)] [.int (dnZ s1), .int s0] (dnB (fX13_next_j95 r0 v1 q9 s48.1 s48.2.1 s48.2.2 l7 s0 s1) (dnKo K61 E61)) := by
              intro l7 s0 s1
              unfold fX13_next_j95
              refine dn_iadd (pc := 95) dX13_next_95 ?_
              refine dn_istore (pc := 96) dX13_next_96 (Nat.le_of_ble_eq_true rfl) (dnKp_nb 5 rfl rfl rfl (dnKp_of (lv2 := [(0, dnV b r0), (1, .int v1), (2, .int q9), (3, .int s48.1), (4, .int s48.2.1), (7, .int l7)]) [0, 1, 2, 3, 4, 6] rfl rfl)) ?_
              refine dn_iinc (pc := 98) (l7 + 1) 7 dX13_next_98 rfl rfl (Nat.le_of_ble_eq_true rfl) (dnKp_nb 0 rfl rfl rfl (dnKp_of (lv2 := [(5, .int s48.2.2), (0, dnV b r0), (1, .int v1), (2, .int q9), (3, .int s48.1), (4, .int s48.2.1)]) [1, 2, 3, 4, 5, 6] rfl rfl)) ?_
              refine dn_goto (pc := 101) 61 dX13_next_101 rfl ?_
              refine dn_leaf ?_
              exact dn_lv [3, 4, 5, 6, 7, 2, 1, 0] rfl (hK61 ((s0 + (dnZ s1)), (l7 + 1)))
            have hj94 : ∀ (l7 : Int32) (s0 : Int32), jX13_next w x b 94 0 0 [(0, dnV b r0), (1, .int v1), (2, .int q9), (3, .int s48.1), (4, .int s48.2.1), (5, .int s48.2.2), (7, .int l7)] [.int s0] (dnB (fX13_next_j94 r0 v1 q9 s48.1 s48.2.1 s48.2.2 l7 s0) (dnKo K61 E61)) := by
              intro l7 s0
              unfold fX13_next_j94
              refine dn_iconst (pc := 94) (v := 0) dX13_next_94 rfl ?_
              exact dn_lv [0, 1, 2, 3, 4, 5, 6] rfl (hj95 l7 s0 false)
            refine dn_iload (pc := 61) 7 dX13_next_61 rfl ?_
            refine dn_bipush (pc := 63) (v := 11) dX13_next_63 rfl ?_
            refine dn_icmp_gt (pc := 65) 104 dX13_next_65 rfl (fun _ => ?_) (fun _ => ?_)
            · refine dn_leaf ?_
              exact dn_lv [0, 1, 2, 3, 4, 5, 6] rfl (hE61 s61.1)
            · refine dn_iload (pc := 68) 6 dX13_next_68 rfl ?_
              refine dn_iload_n (pc := 70) 1 dX13_next_70 rfl ?_
              refine dn_iload (pc := 71) 7 dX13_next_71 rfl ?_
              refine dn_ishr (pc := 73) dX13_next_73 ?_
              refine dn_iconst (pc := 74) (v := 1) dX13_next_74 rfl ?_
              refine dn_iand (pc := 75) dX13_next_75 ?_
              refine dn_iconst (pc := 76) (v := 1) dX13_next_76 rfl ?_
              refine dn_icmp_ne (pc := 77) 94 dX13_next_77 rfl (fun _ => ?_) (fun _ => ?_)
              · exact dn_lv [0, 1, 2, 3, 4, 5, 7] rfl (hj94 s61.2 s61.1)
              · refine dn_iload (pc := 80) 5 dX13_next_80 rfl ?_
                refine dn_iload (pc := 82) 7 dX13_next_82 rfl ?_
                refine dn_callS0Z (pc := 84) [.int s48.2.2, .int s61.2]  kRX13_528 (mX13_isTaken w x b s48.2.2 s61.2) rfl rfl (Nat.le_of_ble_eq_true rfl) ⟨(Nat.le_of_ble_eq_true rfl), (Nat.le_of_ble_eq_true rfl)⟩ ⟨rfl, rfl, (Nat.le_of_ble_eq_true rfl), (Nat.le_of_ble_eq_true rfl)⟩ dX13_next_84 (fun v2 => ?_)
                refine dn_ifz_eq (pc := 87) 94 dX13_next_87 rfl (fun _ => ?_) (fun _ => ?_)
                · refine dn_iconst (pc := 90) (v := 1) dX13_next_90 rfl ?_
                  refine dn_goto (pc := 91) 95 dX13_next_91 rfl ?_
                  exact dn_lv [0, 1, 2, 3, 4, 5, 7] rfl (hj95 s61.2 s61.1 true)
                · exact dn_lv [0, 1, 2, 3, 4, 5, 7] rfl (hj94 s61.2 s61.1)
          · refine dn_iload (pc := 104) 6 dX13_next_104 rfl ?_
            refine dn_iload_n (pc := 106) 2 dX13_next_106 rfl ?_
            refine dn_iload (pc := 107) 6 dX13_next_107 rfl ?_
            refine dn_isub (pc := 109) dX13_next_109 ?_
            refine dn_icmp_le (pc := 110) 118 dX13_next_110 rfl (fun _ => ?_) (fun _ => ?_)
            · refine dn_iload_n (pc := 118) 2 dX13_next_118 rfl ?_
              refine dn_iload (pc := 119) 6 dX13_next_119 rfl ?_
              refine dn_isub (pc := 121) dX13_next_121 ?_
              exact dn_lv [0, 1, 2, 3, 4, 5] rfl (hj122 s48.1 s48.2.1 s48.2.2 (q9 - q61))
            · refine dn_iload (pc := 113) 6 dX13_next_113 rfl ?_
              refine dn_goto (pc := 115) 122 dX13_next_115 rfl ?_
              exact dn_lv [0, 1, 2, 3, 4, 5] rfl (hj122 s48.1 s48.2.1 s48.2.2 q61)
      · refine dn_aload_n (pc := 160) r0 0 dX13_next_160 rfl ?_
        refine dn_iload (pc := 161) 2 dX13_next_161 rfl ?_
        refine dn_i2l (pc := 163) dX13_next_163 ?_
        refine dn_iload_n (pc := 164) 1 dX13_next_164 rfl ?_
        refine dn_callV0I (pc := 165) [.long ((q48.2 : Int32).toInt64), .int q48.1] r0 kRX13_243 (mX13_tells w x b r0 ((q48.2 : Int32).toInt64) q48.1) rfl rfl (Nat.le_of_ble_eq_true rfl) ⟨(Nat.le_of_ble_eq_true rfl), (Nat.le_of_ble_eq_true rfl)⟩ ⟨rfl, rfl, (Nat.le_of_ble_eq_true rfl), (Nat.le_of_ble_eq_true rfl)⟩ dX13_next_165 (fun v3 => ?_)
        exact dn_ret (Nat.le_of_ble_eq_true rfl) (Nat.le_of_ble_eq_true rfl) rfl dX13_next_168
    · refine dn_bipush (pc := 34) (v := -9) dX13_next_34 rfl ?_
      exact dn_ret (Nat.le_of_ble_eq_true rfl) (Nat.le_of_ble_eq_true rfl) rfl dX13_next_36
abbrev rmX13_noMarks : Room := { frames := 0, cells := 0, slots := 0, locals := 0 }
def fX13_noMarks_b2 (c0 : Option Nat) (s2 : Int32) : dnM ((Int32) ⊕ (Unit)) :=
  if 72 ≤ s2 then
  (dnP (.inr ()))
  else
  (dnB (dnGR c0 11 26) fun v1 =>
  dnB (dnTI v1 100 s2 0) fun _ =>
  dnP (.inl (s2 + 1)))
def fX13_noMarks (r0 : Option Nat) : dnM Unit :=
  dnB (dnIt 1000 (fX13_noMarks_b2 r0) 0) fun q2 =>
  dnP ()
abbrev jX13_noMarks (w : dnWd) (x : dnX) (b : Nat) := dnD w x b (fun _ => True) cX13_noMarks RX13 2 rmX13_noMarks "noMarks" eU
set_option maxHeartbeats 4000000 in
set_option maxRecDepth 100000 in
theorem mX13_noMarks (w : dnWd) (x : dnX) (b : Nat) (r0 : Option Nat) : dnMt w x b yX13_noMarks cX13_noMarks 2 none rmX13_noMarks eU [dnV b r0] (fX13_noMarks r0) := by
  have hlv : lv_args 0 [dnV b r0] = [(0, dnV b r0)] := by cases r0 <;> rfl
  refine dn_mt (by decide +kernel) roU (by cases r0 <;> exact (Nat.le_of_ble_eq_true rfl)) ?_
  rw [hlv]
  refine dn_top ?_
  show jX13_noMarks w x b 0 0 0 _ [] (dnB _ dnP)
  unfold fX13_noMarks
  refine dn_iconst (pc := 0) (v := 0) dX13_noMarks_0 rfl ?_
  refine dn_istore_n (pc := 1) dX13_noMarks_1 (Nat.le_of_ble_eq_true rfl) (dnKp_nb 0 rfl (dn_cat b _) rfl (dnKp_of (lv2 := []) [] rfl rfl)) ?_
  refine dn_assoc ?_
  refine dn_lv [1, 0] (lv2 := (fun s => [(0, dnV b r0), (1, .int s)]) 0) rfl ?_
  refine dn_loopE (pc := 2) (body := fX13_noMarks_b2 r0) 21 (fun s => [(0, dnV b r0), (1, .int s)]) (fun q => []) (fun s2 K2 E2 hK2 hE2 => ?_) (fun q2 => ?_) 1000 0
  · unfold fX13_noMarks_b2
    refine dn_iload_n (pc := 2) 1 dX13_noMarks_2 rfl ?_
    refine dn_bipush (pc := 3) (v := 72) dX13_noMarks_3 rfl ?_
    refine dn_icmp_ge (pc := 5) 21 dX13_noMarks_5 rfl (fun _ => ?_) (fun _ => ?_)
    · refine dn_leaf ?_
      exact dn_lv [] rfl (hE2 ())
    · refine dn_aload_n (pc := 8) r0 0 dX13_noMarks_8 rfl ?_
      refine dn_getR (pc := 9) r0 lRX13_67 dX13_noMarks_9 (fun v1 => ?_)
      refine dn_iload_n (pc := 12) 1 dX13_noMarks_12 rfl ?_
      refine dn_iconst (pc := 13) (v := 0) dX13_noMarks_13 rfl ?_
      refine dn_iast (pc := 14) v1 dX13_noMarks_14 ?_
      refine dn_iinc (pc := 15) (s2 + 1) 1 dX13_noMarks_15 rfl rfl (Nat.le_of_ble_eq_true rfl) (dnKp_nb 0 rfl (dn_cat b _) rfl (dnKp_of (lv2 := []) [] rfl rfl)) ?_
      refine dn_goto (pc := 18) 2 dX13_noMarks_18 rfl ?_
      refine dn_leaf ?_
      exact dn_lv [1, 0] rfl (hK2 (s2 + 1))
  · exact dn_ret (Nat.le_of_ble_eq_true rfl) (Nat.le_of_ble_eq_true rfl) rfl dX13_noMarks_21
abbrev rmX13_numbersOf : Room := { frames := 0, cells := 0, slots := 0, locals := 0 }
def fX13_numbersOf (p0 : Int32) : dnM Int32 :=
  if p0 = 1 then
  (dnP 1)
  else
  (if p0 = 2 then
  (dnP 4)
  else
  (if p0 = 3 then
  (dnP 4)
  else
  (if p0 = 4 then
  (dnP 5)
  else
  (if p0 = 5 then
  (dnP 3)
  else
  (if p0 = 6 then
  (dnP 3)
  else
  (if p0 = 7 then
  (dnP 2)
  else
  (if p0 = 8 then
  (dnP 3)
  else
  (if p0 = 9 then
  (dnP 2)
  else
  (if p0 = 10 then
  (dnP 4)
  else
  (if p0 = 11 then
  (dnP 3)
  else
  (if p0 = 12 then
  (dnP 4)
  else
  (if p0 = 13 then
  (dnP 2)
  else
  (dnP 4)))))))))))))
abbrev jX13_numbersOf (w : dnWd) (x : dnX) (b : Nat) := dnD w x b (fun _ => True) cX13_numbersOf RX13 1 rmX13_numbersOf "numbersOf" eI
set_option maxHeartbeats 4000000 in
set_option maxRecDepth 100000 in
theorem mX13_numbersOf (w : dnWd) (x : dnX) (b : Nat) (p0 : Int32) : dnMt w x b yX13_numbersOf cX13_numbersOf 1 (some .int) rmX13_numbersOf eI [.int p0] (fX13_numbersOf p0) := by
  have hlv : lv_args 0 [.int p0] = [(0, .int p0)] := by rfl
  refine dn_mt (by decide +kernel) roI (by exact (Nat.le_of_ble_eq_true rfl)) ?_
  rw [hlv]
  refine dn_top ?_
  show jX13_numbersOf w x b 0 0 0 _ [] (dnB _ dnP)
  unfold fX13_numbersOf
  refine dn_iload_n (pc := 0) 0 dX13_numbersOf_0 rfl ?_
  refine dn_tcase (pc := 1) 1 68 dX13_numbersOf_1 (by decide) (by decide) rfl rfl (fun _ => ?_) (fun n1_1 => ?_)
  · refine dn_iconst (pc := 68) (v := 1) dX13_numbersOf_68 rfl ?_
    exact dn_ret (Nat.le_of_ble_eq_true rfl) (Nat.le_of_ble_eq_true rfl) rfl dX13_numbersOf_69
  · refine dn_tcase (pc := 1) 2 76 dX13_numbersOf_1 (by decide) (by decide) rfl rfl (fun _ => ?_) (fun n1_2 => ?_)
    · refine dn_iconst (pc := 76) (v := 4) dX13_numbersOf_76 rfl ?_
      exact dn_ret (Nat.le_of_ble_eq_true rfl) (Nat.le_of_ble_eq_true rfl) rfl dX13_numbersOf_77
    · refine dn_tcase (pc := 1) 3 76 dX13_numbersOf_1 (by decide) (by decide) rfl rfl (fun _ => ?_) (fun n1_3 => ?_)
      · refine dn_iconst (pc := 76) (v := 4) dX13_numbersOf_76 rfl ?_
        exact dn_ret (Nat.le_of_ble_eq_true rfl) (Nat.le_of_ble_eq_true rfl) rfl dX13_numbersOf_77
      · refine dn_tcase (pc := 1) 4 74 dX13_numbersOf_1 (by decide) (by decide) rfl rfl (fun _ => ?_) (fun n1_4 => ?_)
        · refine dn_iconst (pc := 74) (v := 5) dX13_numbersOf_74 rfl ?_
          exact dn_ret (Nat.le_of_ble_eq_true rfl) (Nat.le_of_ble_eq_true rfl) rfl dX13_numbersOf_75
        · refine dn_tcase (pc := 1) 5 72 dX13_numbersOf_1 (by decide) (by decide) rfl rfl (fun _ => ?_) (fun n1_5 => ?_)
          · refine dn_iconst (pc := 72) (v := 3) dX13_numbersOf_72 rfl ?_
            exact dn_ret (Nat.le_of_ble_eq_true rfl) (Nat.le_of_ble_eq_true rfl) rfl dX13_numbersOf_73
          · refine dn_tcase (pc := 1) 6 72 dX13_numbersOf_1 (by decide) (by decide) rfl rfl (fun _ => ?_) (fun n1_6 => ?_)
            · refine dn_iconst (pc := 72) (v := 3) dX13_numbersOf_72 rfl ?_
              exact dn_ret (Nat.le_of_ble_eq_true rfl) (Nat.le_of_ble_eq_true rfl) rfl dX13_numbersOf_73
            · refine dn_tcase (pc := 1) 7 70 dX13_numbersOf_1 (by decide) (by decide) rfl rfl (fun _ => ?_) (fun n1_7 => ?_)
              · refine dn_iconst (pc := 70) (v := 2) dX13_numbersOf_70 rfl ?_
                exact dn_ret (Nat.le_of_ble_eq_true rfl) (Nat.le_of_ble_eq_true rfl) rfl dX13_numbersOf_71
              · refine dn_tcase (pc := 1) 8 72 dX13_numbersOf_1 (by decide) (by decide) rfl rfl (fun _ => ?_) (fun n1_8 => ?_)
                · refine dn_iconst (pc := 72) (v := 3) dX13_numbersOf_72 rfl ?_
                  exact dn_ret (Nat.le_of_ble_eq_true rfl) (Nat.le_of_ble_eq_true rfl) rfl dX13_numbersOf_73
                · refine dn_tcase (pc := 1) 9 70 dX13_numbersOf_1 (by decide) (by decide) rfl rfl (fun _ => ?_) (fun n1_9 => ?_)
                  · refine dn_iconst (pc := 70) (v := 2) dX13_numbersOf_70 rfl ?_
                    exact dn_ret (Nat.le_of_ble_eq_true rfl) (Nat.le_of_ble_eq_true rfl) rfl dX13_numbersOf_71
                  · refine dn_tcase (pc := 1) 10 76 dX13_numbersOf_1 (by decide) (by decide) rfl rfl (fun _ => ?_) (fun n1_10 => ?_)
                    · refine dn_iconst (pc := 76) (v := 4) dX13_numbersOf_76 rfl ?_
                      exact dn_ret (Nat.le_of_ble_eq_true rfl) (Nat.le_of_ble_eq_true rfl) rfl dX13_numbersOf_77
                    · refine dn_tcase (pc := 1) 11 72 dX13_numbersOf_1 (by decide) (by decide) rfl rfl (fun _ => ?_) (fun n1_11 => ?_)
                      · refine dn_iconst (pc := 72) (v := 3) dX13_numbersOf_72 rfl ?_
                        exact dn_ret (Nat.le_of_ble_eq_true rfl) (Nat.le_of_ble_eq_true rfl) rfl dX13_numbersOf_73
                      · refine dn_tcase (pc := 1) 12 76 dX13_numbersOf_1 (by decide) (by decide) rfl rfl (fun _ => ?_) (fun n1_12 => ?_)
                        · refine dn_iconst (pc := 76) (v := 4) dX13_numbersOf_76 rfl ?_
                          exact dn_ret (Nat.le_of_ble_eq_true rfl) (Nat.le_of_ble_eq_true rfl) rfl dX13_numbersOf_77
                        · refine dn_tcase (pc := 1) 13 70 dX13_numbersOf_1 (by decide) (by decide) rfl rfl (fun _ => ?_) (fun n1_13 => ?_)
                          · refine dn_iconst (pc := 70) (v := 2) dX13_numbersOf_70 rfl ?_
                            exact dn_ret (Nat.le_of_ble_eq_true rfl) (Nat.le_of_ble_eq_true rfl) rfl dX13_numbersOf_71
                          · refine dn_tout (pc := 1) [1, 2, 3, 4, 5, 6, 7, 8, 9, 10, 11, 12, 13] 76 dX13_numbersOf_1 (List.forall_mem_cons.mpr ⟨n1_1, (List.forall_mem_cons.mpr ⟨n1_2, (List.forall_mem_cons.mpr ⟨n1_3, (List.forall_mem_cons.mpr ⟨n1_4, (List.forall_mem_cons.mpr ⟨n1_5, (List.forall_mem_cons.mpr ⟨n1_6, (List.forall_mem_cons.mpr ⟨n1_7, (List.forall_mem_cons.mpr ⟨n1_8, (List.forall_mem_cons.mpr ⟨n1_9, (List.forall_mem_cons.mpr ⟨n1_10, (List.forall_mem_cons.mpr ⟨n1_11, (List.forall_mem_cons.mpr ⟨n1_12, (List.forall_mem_cons.mpr ⟨n1_13, (fun _ h => absurd h List.not_mem_nil)⟩)⟩)⟩)⟩)⟩)⟩)⟩)⟩)⟩)⟩)⟩)⟩)⟩) (by decide) rfl ?_
                            refine dn_iconst (pc := 76) (v := 4) dX13_numbersOf_76 rfl ?_
                            exact dn_ret (Nat.le_of_ble_eq_true rfl) (Nat.le_of_ble_eq_true rfl) rfl dX13_numbersOf_77
abbrev rmX13_order : Room := { frames := 4, cells := 0, slots := 0, locals := 96 }
def fX13_order (r0 : Option Nat) (p1 : Int32) (p2 : Int32) : dnM Int32 :=
  dnB (dnCv r0 11 (fX13_orderDeed r0 p1 p2)) fun v1 =>
  dnB (dnCv r0 11 (fX13_said r0 v1)) fun v2 =>
  dnP v2
abbrev jX13_order (w : dnWd) (x : dnX) (b : Nat) := dnD w x b (fun _ => True) cX13_order RX13 3 rmX13_order "order" eI
set_option maxHeartbeats 4000000 in
set_option maxRecDepth 100000 in
theorem mX13_order (w : dnWd) (x : dnX) (b : Nat) (r0 : Option Nat) (p1 : Int32) (p2 : Int32) : dnMt w x b yX13_order cX13_order 3 (some .int) rmX13_order eI [dnV b r0, .int p1, .int p2] (fX13_order r0 p1 p2) := by
  have hlv : lv_args 0 [dnV b r0, .int p1, .int p2] = [(0, dnV b r0), (1, .int p1), (2, .int p2)] := by cases r0 <;> rfl
  refine dn_mt (by decide +kernel) roI (by cases r0 <;> exact (Nat.le_of_ble_eq_true rfl)) ?_
  rw [hlv]
  refine dn_top ?_
  show jX13_order w x b 0 0 0 _ [] (dnB _ dnP)
  unfold fX13_order
  refine dn_aload_n (pc := 0) r0 0 dX13_order_0 rfl ?_
  refine dn_aload_n (pc := 1) r0 0 dX13_order_1 rfl ?_
  refine dn_iload_n (pc := 2) 1 dX13_order_2 rfl ?_
  refine dn_iload_n (pc := 3) 2 dX13_order_3 rfl ?_
  refine dn_callV0I (pc := 4) [.int p1, .int p2] r0 kRX13_315 (mX13_orderDeed w x b r0 p1 p2) rfl rfl (Nat.le_of_ble_eq_true rfl) ⟨(Nat.le_of_ble_eq_true rfl), (Nat.le_of_ble_eq_true rfl)⟩ ⟨rfl, rfl, (Nat.le_of_ble_eq_true rfl), (Nat.le_of_ble_eq_true rfl)⟩ dX13_order_4 (fun v1 => ?_)
  refine dn_callV0I (pc := 7) [.int v1] r0 kRX13_137 (mX13_said w x b r0 v1) rfl rfl (Nat.le_of_ble_eq_true rfl) ⟨(Nat.le_of_ble_eq_true rfl), (Nat.le_of_ble_eq_true rfl)⟩ ⟨rfl, rfl, (Nat.le_of_ble_eq_true rfl), (Nat.le_of_ble_eq_true rfl)⟩ dX13_order_7 (fun v2 => ?_)
  exact dn_ret (Nat.le_of_ble_eq_true rfl) (Nat.le_of_ble_eq_true rfl) rfl dX13_order_10
abbrev rmX13_paintDeed : Room := { frames := 7, cells := 0, slots := 0, locals := 168 }
def fX13_paintDeed_j115 (l0 : Option Nat) (l1 : Int32) (l4 : Int32) (l5 : Int64) (l8 : Int32) (l9 : Int32) : dnM ((Int32 × Int32) ⊕ (Int32)) :=
  dnP (.inl (l8, (l9 + 1)))
def fX13_paintDeed_j112 (l0 : Option Nat) (l1 : Int32) (l4 : Int32) (l5 : Int64) (l9 : Int32) (s0 : Int32) (s1 : Bool) : dnM ((Int32 × Int32) ⊕ (Int32)) :=
  fX13_paintDeed_j115 l0 l1 l4 l5 (s0 + (dnZ s1)) l9
def fX13_paintDeed_b57 (c0 : Option Nat) (c1 : Int32) (c4 : Int32) (c5 : Int64) (s57 : Int32 × Int32) : dnM ((Int32 × Int32) ⊕ (Int32)) :=
  if 72 ≤ s57.2 then
  (dnP (.inr s57.1))
  else
  (dnB (dnGR c0 11 26) fun v6 =>
  dnB (dnAI v6 100 s57.2) fun v7 =>
  if ¬ v7 = 1 then
  (fX13_paintDeed_j115 c0 c1 c4 c5 s57.1 s57.2)
  else
  (dnB (dnCv c0 11 (fX13_makes c0 c4 c5)) fun _ =>
  dnB (dnNz 12) fun _ =>
  dnB (dnCv c0 11 (fX13_held c0 c1 (s57.2 / 12))) fun v9 =>
  dnB (dnNz 12) fun _ =>
  dnB (dnCv c0 11 (fX13_puts c0 v9 (s57.2 - s57.2 / 12 * 12))) fun v10 =>
  if v10 = true then
  (fX13_paintDeed_j112 c0 c1 c4 c5 s57.2 s57.1 true)
  else
  (fX13_paintDeed_j112 c0 c1 c4 c5 s57.2 s57.1 false)))
def fX13_paintDeed (r0 : Option Nat) (p1 : Int32) (p2 : Int32) (p3 : Int32) (p4 : Int32) (p5 : Int64) : dnM Int32 :=
  dnB (fX13_isGrid p1) fun v1 =>
  if v1 = true then
  (dnB (fX13_isSort p4) fun v2 =>
  if v2 = true then
  (dnB (dnCv r0 11 (fX13_cellFault r0 p1 p2 p3)) fun v3 =>
  if v3 = 0 then
  (dnB (dnCv r0 11 (fX13_noMarks r0)) fun _ =>
  dnB (dnCv r0 11 (fX13_grows r0 p1 ((12 * p2) + p3) 1)) fun v5 =>
  dnB (dnIt 1000 (fX13_paintDeed_b57 r0 p1 p4 p5) (0, 0)) fun q57 =>
  dnP q57)
  else
  (dnP v3))
  else
  (dnP (-1)))
  else
  (dnP (-1))
abbrev jX13_paintDeed (w : dnWd) (x : dnX) (b : Nat) := dnD w x b (fun _ => True) cX13_paintDeed RX13 10 rmX13_paintDeed "paintDeed" eI
set_option maxHeartbeats 4000000 in
set_option maxRecDepth 100000 in
theorem mX13_paintDeed (w : dnWd) (x : dnX) (b : Nat) (r0 : Option Nat) (p1 : Int32) (p2 : Int32) (p3 : Int32) (p4 : Int32) (p5 : Int64) : dnMt w x b yX13_paintDeed cX13_paintDeed 10 (some .int) rmX13_paintDeed eI [dnV b r0, .int p1, .int p2, .int p3, .int p4, .long p5] (fX13_paintDeed r0 p1 p2 p3 p4 p5) := by
  have hlv : lv_args 0 [dnV b r0, .int p1, .int p2, .int p3, .int p4, .long p5] = [(0, dnV b r0), (1, .int p1), (2, .int p2), (3, .int p3), (4, .int p4), (5, .long p5)] := by cases r0 <;> rfl
  refine dn_mt (by decide +kernel) roI (by cases r0 <;> exact (Nat.le_of_ble_eq_true rfl)) ?_
  rw [hlv]
  refine dn_top ?_
  show jX13_paintDeed w x b 0 0 0 _ [] (dnB _ dnP)
  unfold fX13_paintDeed
  refine dn_iload_n (pc := 0) 1 dX13_paintDeed_0 rfl ?_
  refine dn_callS0Z (pc := 1) [.int p1]  kRX13_134 (mX13_isGrid w x b p1) rfl rfl (Nat.le_of_ble_eq_true rfl) ⟨(Nat.le_of_ble_eq_true rfl), (Nat.le_of_ble_eq_true rfl)⟩ ⟨rfl, rfl, (Nat.le_of_ble_eq_true rfl), (Nat.le_of_ble_eq_true rfl)⟩ dX13_paintDeed_1 (fun v1 => ?_)
  refine dn_ifz_eq (pc := 4) 15 dX13_paintDeed_4 rfl (fun _ => ?_) (fun _ => ?_)
  · refine dn_iload (pc := 7) 4 dX13_paintDeed_7 rfl ?_
    refine dn_callS0Z (pc := 9) [.int p4]  kRX13_261 (mX13_isSort w x b p4) rfl rfl (Nat.le_of_ble_eq_true rfl) ⟨(Nat.le_of_ble_eq_true rfl), (Nat.le_of_ble_eq_true rfl)⟩ ⟨rfl, rfl, (Nat.le_of_ble_eq_true rfl), (Nat.le_of_ble_eq_true rfl)⟩ dX13_paintDeed_9 (fun v2 => ?_)
    refine dn_ifz_ne (pc := 12) 17 dX13_paintDeed_12 rfl (fun _ => ?_) (fun _ => ?_)
    · refine dn_aload_n (pc := 17) r0 0 dX13_paintDeed_17 rfl ?_
      refine dn_iload_n (pc := 18) 1 dX13_paintDeed_18 rfl ?_
      refine dn_iload_n (pc := 19) 2 dX13_paintDeed_19 rfl ?_
      refine dn_iload_n (pc := 20) 3 dX13_paintDeed_20 rfl ?_
      refine dn_callV0I (pc := 21) [.int p1, .int p2, .int p3] r0 kRX13_230 (mX13_cellFault w x b r0 p1 p2 p3) rfl rfl (Nat.le_of_ble_eq_true rfl) ⟨(Nat.le_of_ble_eq_true rfl), (Nat.le_of_ble_eq_true rfl)⟩ ⟨rfl, rfl, (Nat.le_of_ble_eq_true rfl), (Nat.le_of_ble_eq_true rfl)⟩ dX13_paintDeed_21 (fun v3 => ?_)
      refine dn_istore (pc := 24) dX13_paintDeed_24 (Nat.le_of_ble_eq_true rfl) (dnKp_of (lv2 := [(0, dnV b r0), (1, .int p1), (2, .int p2), (3, .int p3), (4, .int p4), (5, .long p5)]) [0, 1, 2, 3, 4, 5] rfl rfl) ?_
      refine dn_iload (pc := 26) 0 dX13_paintDeed_26 rfl ?_
      refine dn_if_eq (pc := 28) 34 dX13_paintDeed_28 rfl (fun _ => ?_) (fun _ => ?_)
      · refine dn_aload_n (pc := 34) r0 1 dX13_paintDeed_34 rfl ?_
        refine dn_callV0U (pc := 35) [] r0 kRX13_422 (mX13_noMarks w x b r0) rfl rfl (Nat.le_of_ble_eq_true rfl) ⟨(Nat.le_of_ble_eq_true rfl), (Nat.le_of_ble_eq_true rfl)⟩ ⟨rfl, rfl, (Nat.le_of_ble_eq_true rfl), (Nat.le_of_ble_eq_true rfl)⟩ dX13_paintDeed_35 (fun _ => ?_)
        refine dn_aload_n (pc := 38) r0 1 dX13_paintDeed_38 rfl ?_
        refine dn_iload_n (pc := 39) 2 dX13_paintDeed_39 rfl ?_
        refine dn_bipush (pc := 40) (v := 12) dX13_paintDeed_40 rfl ?_
        refine dn_iload_n (pc := 42) 3 dX13_paintDeed_42 rfl ?_
        refine dn_imul (pc := 43) dX13_paintDeed_43 ?_
        refine dn_iload_n (pc := 44) 4 dX13_paintDeed_44 rfl ?_
        refine dn_iadd (pc := 45) dX13_paintDeed_45 ?_
        refine dn_iconst (pc := 46) (v := 1) dX13_paintDeed_46 rfl ?_
        refine dn_callV0I (pc := 47) [.int p1, .int ((12 * p2) + p3), .int 1] r0 kRX13_425 (mX13_grows w x b r0 p1 ((12 * p2) + p3) 1) rfl rfl (Nat.le_of_ble_eq_true rfl) ⟨(Nat.le_of_ble_eq_true rfl), (Nat.le_of_ble_eq_true rfl)⟩ ⟨rfl, rfl, (Nat.le_of_ble_eq_true rfl), (Nat.le_of_ble_eq_true rfl)⟩ dX13_paintDeed_47 (fun v5 => ?_)
        refine dn_pop (pc := 50) dX13_paintDeed_50 rfl ?_
        refine dn_iconst (pc := 51) (v := 0) dX13_paintDeed_51 rfl ?_
        refine dn_istore (pc := 52) dX13_paintDeed_52 (Nat.le_of_ble_eq_true rfl) (dnKp_of (lv2 := [(0, dnV b r0), (1, .int p1), (4, .int p4), (5, .long p5)]) [1, 2, 5, 6] rfl rfl) ?_
        refine dn_iconst (pc := 54) (v := 0) dX13_paintDeed_54 rfl ?_
        refine dn_istore (pc := 55) dX13_paintDeed_55 (Nat.le_of_ble_eq_true rfl) (dnKp_nb 0 rfl rfl rfl (dnKp_of (lv2 := [(0, dnV b r0), (1, .int p1), (4, .int p4), (5, .long p5)]) [1, 2, 3, 4] rfl rfl)) ?_
        refine dn_assoc ?_
        refine dn_lv [2, 3, 4, 5, 1, 0] (lv2 := (fun s => [(0, dnV b r0), (1, .int p1), (4, .int p4), (5, .long p5), (8, .int s.1), (9, .int s.2)]) (0, 0)) rfl ?_
        refine dn_loopE (pc := 57) (body := fX13_paintDeed_b57 r0 p1 p4 p5) 121 (fun s => [(0, dnV b r0), (1, .int p1), (4, .int p4), (5, .long p5), (8, .int s.1), (9, .int s.2)]) (fun q => [(8, .int q)]) (fun s57 K57 E57 hK57 hE57 => ?_) (fun q57 => ?_) 1000 (0, 0)
        · unfold fX13_paintDeed_b57
          have hj115 : ∀ (l8 : Int32) (l9 : Int32), jX13_paintDeed w x b 115 0 0 [(0, dnV b r0), (1, .int p1), (4, .int p4), (5, .long p5), (8, .int l8), (9, .int l9)] [] (dnB (fX13_paintDeed_j115 r0 p1 p4 p5 l8 l9) (dnKo K57 E57)) := by
            intro l8 l9
            unfold fX13_paintDeed_j115
            refine dn_iinc (pc := 115) (l9 + 1) 5 dX13_paintDeed_115 rfl rfl (Nat.le_of_ble_eq_true rfl) (dnKp_nb 4 rfl rfl rfl (dnKp_of (lv2 := [(0, dnV b r0), (1, .int p1), (4, .int p4), (5, .long p5)]) [0, 1, 2, 3] rfl rfl)) ?_
            refine dn_goto (pc := 118) 57 dX13_paintDeed_118 rfl ?_
            refine dn_leaf ?_
            exact dn_lv [2, 3, 4, 5, 1, 0] rfl (hK57 (l8, (l9 + 1)))
          have hj112 : ∀ (l9 : Int32) (s0 : Int32) (s1 : Bool), jX13_paintDeed w x b 112 0 0 [(0, dnV b r0), (1, .int p1), (4, .int p4), (5, .long p5), (9, .int l9)] [.int (dnZ s1), .int s0] (dnB (fX13_paintDeed_j112 r0 p1 p4 p5 l9 s0 s1) (dnKo K57 E57)) := by
            intro l9 s0 s1
            unfold fX13_paintDeed_j112
            refine dn_iadd (pc := 112) dX13_paintDeed_112 ?_
            refine dn_istore (pc := 113) dX13_paintDeed_113 (Nat.le_of_ble_eq_true rfl) (dnKp_of (lv2 := [(0, dnV b r0), (1, .int p1), (4, .int p4), (5, .long p5), (9, .int l9)]) [0, 1, 2, 3, 4] rfl rfl) ?_
            exact dn_lv [1, 2, 3, 4, 0, 5] rfl (hj115 (s0 + (dnZ s1)) l9)
          refine dn_iload (pc := 57) 5 dX13_paintDeed_57 rfl ?_
          refine dn_bipush (pc := 59) (v := 72) dX13_paintDeed_59 rfl ?_
          refine dn_icmp_ge (pc := 61) 121 dX13_paintDeed_61 rfl (fun _ => ?_) (fun _ => ?_)
          · refine dn_leaf ?_
            exact dn_lv [4] rfl (hE57 s57.1)
          · refine dn_aload_n (pc := 64) r0 0 dX13_paintDeed_64 rfl ?_
            refine dn_getR (pc := 65) r0 lRX13_67 dX13_paintDeed_65 (fun v6 => ?_)
            refine dn_iload (pc := 68) 5 dX13_paintDeed_68 rfl ?_
            refine dn_iald (pc := 70) v6 dX13_paintDeed_70 (fun v7 => ?_)
            refine dn_iconst (pc := 71) (v := 1) dX13_paintDeed_71 rfl ?_
            refine dn_icmp_ne (pc := 72) 115 dX13_paintDeed_72 rfl (fun _ => ?_) (fun _ => ?_)
            · exact dn_lv [0, 1, 2, 3, 4, 5] rfl (hj115 s57.1 s57.2)
            · refine dn_aload_n (pc := 75) r0 0 dX13_paintDeed_75 rfl ?_
              refine dn_iload (pc := 76) 2 dX13_paintDeed_76 rfl ?_
              refine dn_lload (pc := 78) 3 dX13_paintDeed_78 rfl ?_
              refine dn_callV0U (pc := 80) [.int p4, .long p5] r0 kRX13_250 (mX13_makes w x b r0 p4 p5) rfl rfl (Nat.le_of_ble_eq_true rfl) ⟨(Nat.le_of_ble_eq_true rfl), (Nat.le_of_ble_eq_true rfl)⟩ ⟨rfl, rfl, (Nat.le_of_ble_eq_true rfl), (Nat.le_of_ble_eq_true rfl)⟩ dX13_paintDeed_80 (fun _ => ?_)
              refine dn_iload (pc := 83) 4 dX13_paintDeed_83 rfl ?_
              refine dn_aload_n (pc := 85) r0 0 dX13_paintDeed_85 rfl ?_
              refine dn_aload_n (pc := 86) r0 0 dX13_paintDeed_86 rfl ?_
              refine dn_iload_n (pc := 87) 1 dX13_paintDeed_87 rfl ?_
              refine dn_iload (pc := 88) 5 dX13_paintDeed_88 rfl ?_
              refine dn_bipush (pc := 90) (v := 12) dX13_paintDeed_90 rfl ?_
              refine dn_idiv (pc := 92) dX13_paintDeed_92 ?_
              refine dn_callV0I (pc := 93) [.int p1, .int (s57.2 / 12)] r0 kRX13_128 (mX13_held w x b r0 p1 (s57.2 / 12)) rfl rfl (Nat.le_of_ble_eq_true rfl) ⟨(Nat.le_of_ble_eq_true rfl), (Nat.le_of_ble_eq_true rfl)⟩ ⟨rfl, rfl, (Nat.le_of_ble_eq_true rfl), (Nat.le_of_ble_eq_true rfl)⟩ dX13_paintDeed_93 (fun v9 => ?_)
              refine dn_iload (pc := 96) 5 dX13_paintDeed_96 rfl ?_
              refine dn_bipush (pc := 98) (v := 12) dX13_paintDeed_98 rfl ?_
              refine dn_irem (pc := 100) dX13_paintDeed_100 ?_
              refine dn_callV0Z (pc := 101) [.int v9, .int (s57.2 - s57.2 / 12 * 12)] r0 kRX13_254 (mX13_puts w x b r0 v9 (s57.2 - s57.2 / 12 * 12)) rfl rfl (Nat.le_of_ble_eq_true rfl) ⟨(Nat.le_of_ble_eq_true rfl), (Nat.le_of_ble_eq_true rfl)⟩ ⟨rfl, rfl, (Nat.le_of_ble_eq_true rfl), (Nat.le_of_ble_eq_true rfl)⟩ dX13_paintDeed_101 (fun v10 => ?_)
              refine dn_ifz_eq (pc := 104) 111 dX13_paintDeed_104 rfl (fun _ => ?_) (fun _ => ?_)
              · refine dn_iconst (pc := 107) (v := 1) dX13_paintDeed_107 rfl ?_
                refine dn_goto (pc := 108) 112 dX13_paintDeed_108 rfl ?_
                exact dn_lv [0, 1, 2, 3, 5] rfl (hj112 s57.2 s57.1 true)
              · refine dn_iconst (pc := 111) (v := 0) dX13_paintDeed_111 rfl ?_
                exact dn_lv [0, 1, 2, 3, 5] rfl (hj112 s57.2 s57.1 false)
        · refine dn_iload (pc := 121) 0 dX13_paintDeed_121 rfl ?_
          exact dn_ret (Nat.le_of_ble_eq_true rfl) (Nat.le_of_ble_eq_true rfl) rfl dX13_paintDeed_123
      · refine dn_iload (pc := 31) 0 dX13_paintDeed_31 rfl ?_
        exact dn_ret (Nat.le_of_ble_eq_true rfl) (Nat.le_of_ble_eq_true rfl) rfl dX13_paintDeed_33
    · refine dn_iconst (pc := 15) (v := -1) dX13_paintDeed_15 rfl ?_
      exact dn_ret (Nat.le_of_ble_eq_true rfl) (Nat.le_of_ble_eq_true rfl) rfl dX13_paintDeed_16
  · refine dn_iconst (pc := 15) (v := -1) dX13_paintDeed_15 rfl ?_
    exact dn_ret (Nat.le_of_ble_eq_true rfl) (Nat.le_of_ble_eq_true rfl) rfl dX13_paintDeed_16
abbrev rmX13_paint : Room := { frames := 8, cells := 0, slots := 0, locals := 197 }
def fX13_paint (r0 : Option Nat) (p1 : Int32) (p2 : Int32) (p3 : Int32) (p4 : Int32) (p5 : Int64) : dnM Int32 :=
  dnB (dnCv r0 11 (fX13_paintDeed r0 p1 p2 p3 p4 p5)) fun v1 =>
  dnB (dnCv r0 11 (fX13_said r0 v1)) fun v2 =>
  dnP v2
abbrev jX13_paint (w : dnWd) (x : dnX) (b : Nat) := dnD w x b (fun _ => True) cX13_paint RX13 7 rmX13_paint "paint" eI
set_option maxHeartbeats 4000000 in
set_option maxRecDepth 100000 in
theorem mX13_paint (w : dnWd) (x : dnX) (b : Nat) (r0 : Option Nat) (p1 : Int32) (p2 : Int32) (p3 : Int32) (p4 : Int32) (p5 : Int64) : dnMt w x b yX13_paint cX13_paint 7 (some .int) rmX13_paint eI [dnV b r0, .int p1, .int p2, .int p3, .int p4, .long p5] (fX13_paint r0 p1 p2 p3 p4 p5) := by
  have hlv : lv_args 0 [dnV b r0, .int p1, .int p2, .int p3, .int p4, .long p5] = [(0, dnV b r0), (1, .int p1), (2, .int p2), (3, .int p3), (4, .int p4), (5, .long p5)] := by cases r0 <;> rfl
  refine dn_mt (by decide +kernel) roI (by cases r0 <;> exact (Nat.le_of_ble_eq_true rfl)) ?_
  rw [hlv]
  refine dn_top ?_
  show jX13_paint w x b 0 0 0 _ [] (dnB _ dnP)
  unfold fX13_paint
  refine dn_aload_n (pc := 0) r0 0 dX13_paint_0 rfl ?_
  refine dn_aload_n (pc := 1) r0 0 dX13_paint_1 rfl ?_
  refine dn_iload_n (pc := 2) 1 dX13_paint_2 rfl ?_
  refine dn_iload_n (pc := 3) 2 dX13_paint_3 rfl ?_
  refine dn_iload_n (pc := 4) 3 dX13_paint_4 rfl ?_
  refine dn_iload (pc := 5) 4 dX13_paint_5 rfl ?_
  refine dn_lload (pc := 7) 5 dX13_paint_7 rfl ?_
  refine dn_callV0I (pc := 9) [.int p1, .int p2, .int p3, .int p4, .long p5] r0 kRX13_436 (mX13_paintDeed w x b r0 p1 p2 p3 p4 p5) rfl rfl (Nat.le_of_ble_eq_true rfl) ⟨(Nat.le_of_ble_eq_true rfl), (Nat.le_of_ble_eq_true rfl)⟩ ⟨rfl, rfl, (Nat.le_of_ble_eq_true rfl), (Nat.le_of_ble_eq_true rfl)⟩ dX13_paint_9 (fun v1 => ?_)
  refine dn_callV0I (pc := 12) [.int v1] r0 kRX13_137 (mX13_said w x b r0 v1) rfl rfl (Nat.le_of_ble_eq_true rfl) ⟨(Nat.le_of_ble_eq_true rfl), (Nat.le_of_ble_eq_true rfl)⟩ ⟨rfl, rfl, (Nat.le_of_ble_eq_true rfl), (Nat.le_of_ble_eq_true rfl)⟩ dX13_paint_12 (fun v2 => ?_)
  exact dn_ret (Nat.le_of_ble_eq_true rfl) (Nat.le_of_ble_eq_true rfl) rfl dX13_paint_15
abbrev rmX13_passed : Room := { frames := 0, cells := 0, slots := 0, locals := 0 }
def fX13_passed (r0 : Option Nat) : dnM Int32 :=
  dnB (dnGI r0 11 3) fun v1 =>
  dnP v1
abbrev jX13_passed (w : dnWd) (x : dnX) (b : Nat) := dnD w x b (fun _ => True) cX13_passed RX13 1 rmX13_passed "passed" eI
set_option maxHeartbeats 4000000 in
set_option maxRecDepth 100000 in
theorem mX13_passed (w : dnWd) (x : dnX) (b : Nat) (r0 : Option Nat) : dnMt w x b yX13_passed cX13_passed 1 (some .int) rmX13_passed eI [dnV b r0] (fX13_passed r0) := by
  have hlv : lv_args 0 [dnV b r0] = [(0, dnV b r0)] := by cases r0 <;> rfl
  refine dn_mt (by decide +kernel) roI (by cases r0 <;> exact (Nat.le_of_ble_eq_true rfl)) ?_
  rw [hlv]
  refine dn_top ?_
  show jX13_passed w x b 0 0 0 _ [] (dnB _ dnP)
  unfold fX13_passed
  refine dn_aload_n (pc := 0) r0 0 dX13_passed_0 rfl ?_
  refine dn_getI (pc := 1) r0 lRX13_389 dX13_passed_1 (fun v1 => ?_)
  exact dn_ret (Nat.le_of_ble_eq_true rfl) (Nat.le_of_ble_eq_true rfl) rfl dX13_passed_4
abbrev rmX13_passesBlanks : Room := { frames := 0, cells := 0, slots := 0, locals := 0 }
def fX13_passesBlanks_b0 (c0 : Option Nat) (s0 : Unit) : dnM ((Unit) ⊕ (Unit)) :=
  dnB (dnGI c0 11 38) fun v1 =>
  dnB (dnGI c0 11 37) fun v2 =>
  if v2 ≤ v1 then
  (dnP (.inr ()))
  else
  (dnB (dnGR c0 11 36) fun v3 =>
  dnB (dnGI c0 11 38) fun v4 =>
  dnB (dnAI v3 100 v4) fun v5 =>
  if ¬ v5 = 32 then
  (dnP (.inr ()))
  else
  (dnB (dnGI c0 11 38) fun v6 =>
  dnB (dnPI c0 11 38 (v6 + 1)) fun _ =>
  dnP (.inl ())))
def fX13_passesBlanks (r0 : Option Nat) : dnM Unit :=
  dnB (dnIt 1000 (fX13_passesBlanks_b0 r0) ()) fun q0 =>
  dnP ()
abbrev jX13_passesBlanks (w : dnWd) (x : dnX) (b : Nat) := dnD w x b (fun _ => True) cX13_passesBlanks RX13 1 rmX13_passesBlanks "passesBlanks" eU
set_option maxHeartbeats 4000000 in
set_option maxRecDepth 100000 in
theorem mX13_passesBlanks (w : dnWd) (x : dnX) (b : Nat) (r0 : Option Nat) : dnMt w x b yX13_passesBlanks cX13_passesBlanks 1 none rmX13_passesBlanks eU [dnV b r0] (fX13_passesBlanks r0) := by
  have hlv : lv_args 0 [dnV b r0] = [(0, dnV b r0)] := by cases r0 <;> rfl
  refine dn_mt (by decide +kernel) roU (by cases r0 <;> exact (Nat.le_of_ble_eq_true rfl)) ?_
  rw [hlv]
  refine dn_top ?_
  show jX13_passesBlanks w x b 0 0 0 _ [] (dnB _ dnP)
  unfold fX13_passesBlanks
  refine dn_assoc ?_
  refine dn_lv [0] (lv2 := (fun s => [(0, dnV b r0)]) ()) rfl ?_
  refine dn_loopE (pc := 0) (body := fX13_passesBlanks_b0 r0) 38 (fun s => [(0, dnV b r0)]) (fun q => []) (fun s0 K0 E0 hK0 hE0 => ?_) (fun q0 => ?_) 1000 ()
  · unfold fX13_passesBlanks_b0
    refine dn_aload_n (pc := 0) r0 0 dX13_passesBlanks_0 rfl ?_
    refine dn_getI (pc := 1) r0 lRX13_469 dX13_passesBlanks_1 (fun v1 => ?_)
    refine dn_aload_n (pc := 4) r0 0 dX13_passesBlanks_4 rfl ?_
    refine dn_getI (pc := 5) r0 lRX13_466 dX13_passesBlanks_5 (fun v2 => ?_)
    refine dn_icmp_ge (pc := 8) 38 dX13_passesBlanks_8 rfl (fun _ => ?_) (fun _ => ?_)
    · refine dn_leaf ?_
      exact dn_lv [] rfl (hE0 ())
    · refine dn_aload_n (pc := 11) r0 0 dX13_passesBlanks_11 rfl ?_
      refine dn_getR (pc := 12) r0 lRX13_94 dX13_passesBlanks_12 (fun v3 => ?_)
      refine dn_aload_n (pc := 15) r0 0 dX13_passesBlanks_15 rfl ?_
      refine dn_getI (pc := 16) r0 lRX13_469 dX13_passesBlanks_16 (fun v4 => ?_)
      refine dn_iald (pc := 19) v3 dX13_passesBlanks_19 (fun v5 => ?_)
      refine dn_bipush (pc := 20) (v := 32) dX13_passesBlanks_20 rfl ?_
      refine dn_icmp_ne (pc := 22) 38 dX13_passesBlanks_22 rfl (fun _ => ?_) (fun _ => ?_)
      · refine dn_leaf ?_
        exact dn_lv [] rfl (hE0 ())
      · refine dn_aload_n (pc := 25) r0 0 dX13_passesBlanks_25 rfl ?_
        refine dn_dup (pc := 26) dX13_passesBlanks_26 (dn_cat b _) ?_
        refine dn_getI (pc := 27) r0 lRX13_469 dX13_passesBlanks_27 (fun v6 => ?_)
        refine dn_iconst (pc := 30) (v := 1) dX13_passesBlanks_30 rfl ?_
        refine dn_iadd (pc := 31) dX13_passesBlanks_31 ?_
        refine dn_putI (pc := 32) r0 lRX13_469 dX13_passesBlanks_32 ?_
        refine dn_goto (pc := 35) 0 dX13_passesBlanks_35 rfl ?_
        refine dn_leaf ?_
        exact dn_lv [0] rfl (hK0 ())
  · exact dn_ret (Nat.le_of_ble_eq_true rfl) (Nat.le_of_ble_eq_true rfl) rfl dX13_passesBlanks_38
abbrev rmX13_patchAnswer : Room := { frames := 7, cells := 0, slots := 0, locals := 168 }
def fX13_patchAnswer_b47 (c0 : Option Nat) (c5 : Int32) (s47 : Int32) : dnM ((Int32) ⊕ (Int32)) :=
  dnB (dnGR c0 11 26) fun v5 =>
  dnB (dnAI v5 100 s47) fun v6 =>
  if ¬ v6 = 0 then
  (dnP (.inr s47))
  else
  (dnP (.inl (s47 + 1)))
def fX13_patchAnswer (r0 : Option Nat) (p1 : Int32) (p2 : Int32) (p3 : Int32) : dnM Int32 :=
  dnB (fX13_isGrid p1) fun v1 =>
  if v1 = true then
  (dnB (dnCv r0 11 (fX13_cellFault r0 p1 p2 p3)) fun v2 =>
  if v2 = 0 then
  (dnB (dnCv r0 11 (fX13_noMarks r0)) fun _ =>
  dnB (dnCv r0 11 (fX13_grows r0 p1 ((12 * p2) + p3) 1)) fun v4 =>
  dnB (dnIt 1000 (fX13_patchAnswer_b47 r0 v4) 0) fun q47 =>
  dnB (dnNz 12) fun _ =>
  dnB (dnNz 12) fun _ =>
  dnB (dnCv r0 11 (fX13_tells r0 ((100 * (((q47 / 12) : Int32).toInt64)) + (((q47 - q47 / 12 * 12) : Int32).toInt64)) v4)) fun v7 =>
  dnP v7)
  else
  (dnP v2))
  else
  (dnP (-1))
abbrev jX13_patchAnswer (w : dnWd) (x : dnX) (b : Nat) := dnD w x b (fun _ => True) cX13_patchAnswer RX13 7 rmX13_patchAnswer "patchAnswer" eI
set_option maxHeartbeats 4000000 in
set_option maxRecDepth 100000 in
theorem mX13_patchAnswer (w : dnWd) (x : dnX) (b : Nat) (r0 : Option Nat) (p1 : Int32) (p2 : Int32) (p3 : Int32) : dnMt w x b yX13_patchAnswer cX13_patchAnswer 7 (some .int) rmX13_patchAnswer eI [dnV b r0, .int p1, .int p2, .int p3] (fX13_patchAnswer r0 p1 p2 p3) := by
  have hlv : lv_args 0 [dnV b r0, .int p1, .int p2, .int p3] = [(0, dnV b r0), (1, .int p1), (2, .int p2), (3, .int p3)] := by cases r0 <;> rfl
  refine dn_mt (by decide +kernel) roI (by cases r0 <;> exact (Nat.le_of_ble_eq_true rfl)) ?_
  rw [hlv]
  refine dn_top ?_
  show jX13_patchAnswer w x b 0 0 0 _ [] (dnB _ dnP)
  unfold fX13_patchAnswer
  refine dn_iload_n (pc := 0) 1 dX13_patchAnswer_0 rfl ?_
  refine dn_callS0Z (pc := 1) [.int p1]  kRX13_134 (mX13_isGrid w x b p1) rfl rfl (Nat.le_of_ble_eq_true rfl) ⟨(Nat.le_of_ble_eq_true rfl), (Nat.le_of_ble_eq_true rfl)⟩ ⟨rfl, rfl, (Nat.le_of_ble_eq_true rfl), (Nat.le_of_ble_eq_true rfl)⟩ dX13_patchAnswer_1 (fun v1 => ?_)
  refine dn_ifz_ne (pc := 4) 9 dX13_patchAnswer_4 rfl (fun _ => ?_) (fun _ => ?_)
  · refine dn_aload_n (pc := 9) r0 0 dX13_patchAnswer_9 rfl ?_
    refine dn_iload_n (pc := 10) 1 dX13_patchAnswer_10 rfl ?_
    refine dn_iload_n (pc := 11) 2 dX13_patchAnswer_11 rfl ?_
    refine dn_iload_n (pc := 12) 3 dX13_patchAnswer_12 rfl ?_
    refine dn_callV0I (pc := 13) [.int p1, .int p2, .int p3] r0 kRX13_230 (mX13_cellFault w x b r0 p1 p2 p3) rfl rfl (Nat.le_of_ble_eq_true rfl) ⟨(Nat.le_of_ble_eq_true rfl), (Nat.le_of_ble_eq_true rfl)⟩ ⟨rfl, rfl, (Nat.le_of_ble_eq_true rfl), (Nat.le_of_ble_eq_true rfl)⟩ dX13_patchAnswer_13 (fun v2 => ?_)
    refine dn_istore (pc := 16) dX13_patchAnswer_16 (Nat.le_of_ble_eq_true rfl) (dnKp_nb 3 rfl rfl rfl (dnKp_of (lv2 := [(0, dnV b r0), (1, .int p1), (2, .int p2)]) [0, 1, 2] rfl rfl)) ?_
    refine dn_iload (pc := 18) 0 dX13_patchAnswer_18 rfl ?_
    refine dn_if_eq (pc := 20) 26 dX13_patchAnswer_20 rfl (fun _ => ?_) (fun _ => ?_)
    · refine dn_aload_n (pc := 26) r0 2 dX13_patchAnswer_26 rfl ?_
      refine dn_callV0U (pc := 27) [] r0 kRX13_422 (mX13_noMarks w x b r0) rfl rfl (Nat.le_of_ble_eq_true rfl) ⟨(Nat.le_of_ble_eq_true rfl), (Nat.le_of_ble_eq_true rfl)⟩ ⟨rfl, rfl, (Nat.le_of_ble_eq_true rfl), (Nat.le_of_ble_eq_true rfl)⟩ dX13_patchAnswer_27 (fun _ => ?_)
      refine dn_aload_n (pc := 30) r0 2 dX13_patchAnswer_30 rfl ?_
      refine dn_iload_n (pc := 31) 3 dX13_patchAnswer_31 rfl ?_
      refine dn_bipush (pc := 32) (v := 12) dX13_patchAnswer_32 rfl ?_
      refine dn_iload_n (pc := 34) 4 dX13_patchAnswer_34 rfl ?_
      refine dn_imul (pc := 35) dX13_patchAnswer_35 ?_
      refine dn_iload_n (pc := 36) 1 dX13_patchAnswer_36 rfl ?_
      refine dn_iadd (pc := 37) dX13_patchAnswer_37 ?_
      refine dn_iconst (pc := 38) (v := 1) dX13_patchAnswer_38 rfl ?_
      refine dn_callV0I (pc := 39) [.int p1, .int ((12 * p2) + p3), .int 1] r0 kRX13_425 (mX13_grows w x b r0 p1 ((12 * p2) + p3) 1) rfl rfl (Nat.le_of_ble_eq_true rfl) ⟨(Nat.le_of_ble_eq_true rfl), (Nat.le_of_ble_eq_true rfl)⟩ ⟨rfl, rfl, (Nat.le_of_ble_eq_true rfl), (Nat.le_of_ble_eq_true rfl)⟩ dX13_patchAnswer_39 (fun v4 => ?_)
      refine dn_istore (pc := 42) dX13_patchAnswer_42 (Nat.le_of_ble_eq_true rfl) (dnKp_of (lv2 := [(0, dnV b r0)]) [2] rfl rfl) ?_
      refine dn_iconst (pc := 44) (v := 0) dX13_patchAnswer_44 rfl ?_
      refine dn_istore (pc := 45) dX13_patchAnswer_45 (Nat.le_of_ble_eq_true rfl) (dnKp_nb 0 rfl rfl rfl (dnKp_of (lv2 := [(0, dnV b r0)]) [1] rfl rfl)) ?_
      refine dn_assoc ?_
      refine dn_lv [2, 1, 0] (lv2 := (fun s => [(0, dnV b r0), (5, .int v4), (6, .int s)]) 0) rfl ?_
      refine dn_loopE (pc := 47) (body := fX13_patchAnswer_b47 r0 v4) 63 (fun s => [(0, dnV b r0), (5, .int v4), (6, .int s)]) (fun q => [(0, dnV b r0), (5, .int v4), (6, .int q)]) (fun s47 K47 E47 hK47 hE47 => ?_) (fun q47 => ?_) 1000 0
      · unfold fX13_patchAnswer_b47
        refine dn_aload_n (pc := 47) r0 0 dX13_patchAnswer_47 rfl ?_
        refine dn_getR (pc := 48) r0 lRX13_67 dX13_patchAnswer_48 (fun v5 => ?_)
        refine dn_iload (pc := 51) 2 dX13_patchAnswer_51 rfl ?_
        refine dn_iald (pc := 53) v5 dX13_patchAnswer_53 (fun v6 => ?_)
        refine dn_if_ne (pc := 54) 63 dX13_patchAnswer_54 rfl (fun _ => ?_) (fun _ => ?_)
        · refine dn_leaf ?_
          exact dn_lv [0, 1, 2] rfl (hE47 s47)
        · refine dn_iinc (pc := 57) (s47 + 1) 2 dX13_patchAnswer_57 rfl rfl (Nat.le_of_ble_eq_true rfl) (dnKp_nb 1 rfl rfl rfl (dnKp_of (lv2 := [(0, dnV b r0)]) [0] rfl rfl)) ?_
          refine dn_goto (pc := 60) 47 dX13_patchAnswer_60 rfl ?_
          refine dn_leaf ?_
          exact dn_lv [2, 1, 0] rfl (hK47 (s47 + 1))
      · refine dn_aload_n (pc := 63) r0 0 dX13_patchAnswer_63 rfl ?_
        refine dn_ldc2 (pc := 64) kRX13_428 dX13_patchAnswer_64 ?_
        refine dn_iload (pc := 67) 2 dX13_patchAnswer_67 rfl ?_
        refine dn_bipush (pc := 69) (v := 12) dX13_patchAnswer_69 rfl ?_
        refine dn_idiv (pc := 71) dX13_patchAnswer_71 ?_
        refine dn_i2l (pc := 72) dX13_patchAnswer_72 ?_
        refine dn_lmul (pc := 73) dX13_patchAnswer_73 ?_
        refine dn_iload (pc := 74) 2 dX13_patchAnswer_74 rfl ?_
        refine dn_bipush (pc := 76) (v := 12) dX13_patchAnswer_76 rfl ?_
        refine dn_irem (pc := 78) dX13_patchAnswer_78 ?_
        refine dn_i2l (pc := 79) dX13_patchAnswer_79 ?_
        refine dn_ladd (pc := 80) dX13_patchAnswer_80 ?_
        refine dn_iload (pc := 81) 1 dX13_patchAnswer_81 rfl ?_
        refine dn_callV0I (pc := 83) [.long ((100 * (((q47 / 12) : Int32).toInt64)) + (((q47 - q47 / 12 * 12) : Int32).toInt64)), .int v4] r0 kRX13_243 (mX13_tells w x b r0 ((100 * (((q47 / 12) : Int32).toInt64)) + (((q47 - q47 / 12 * 12) : Int32).toInt64)) v4) rfl rfl (Nat.le_of_ble_eq_true rfl) ⟨(Nat.le_of_ble_eq_true rfl), (Nat.le_of_ble_eq_true rfl)⟩ ⟨rfl, rfl, (Nat.le_of_ble_eq_true rfl), (Nat.le_of_ble_eq_true rfl)⟩ dX13_patchAnswer_83 (fun v7 => ?_)
        exact dn_ret (Nat.le_of_ble_eq_true rfl) (Nat.le_of_ble_eq_true rfl) rfl dX13_patchAnswer_86
    · refine dn_iload (pc := 23) 0 dX13_patchAnswer_23 rfl ?_
      exact dn_ret (Nat.le_of_ble_eq_true rfl) (Nat.le_of_ble_eq_true rfl) rfl dX13_patchAnswer_25
  · refine dn_iconst (pc := 7) (v := -1) dX13_patchAnswer_7 rfl ?_
    exact dn_ret (Nat.le_of_ble_eq_true rfl) (Nat.le_of_ble_eq_true rfl) rfl dX13_patchAnswer_8
abbrev rmX13_patch : Room := { frames := 8, cells := 0, slots := 0, locals := 194 }
def fX13_patch (r0 : Option Nat) (p1 : Int32) (p2 : Int32) (p3 : Int32) : dnM Int32 :=
  dnB (dnCv r0 11 (fX13_patchAnswer r0 p1 p2 p3)) fun v1 =>
  dnB (dnCv r0 11 (fX13_said r0 v1)) fun v2 =>
  dnP v2
abbrev jX13_patch (w : dnWd) (x : dnX) (b : Nat) := dnD w x b (fun _ => True) cX13_patch RX13 4 rmX13_patch "patch" eI
set_option maxHeartbeats 4000000 in
set_option maxRecDepth 100000 in
theorem mX13_patch (w : dnWd) (x : dnX) (b : Nat) (r0 : Option Nat) (p1 : Int32) (p2 : Int32) (p3 : Int32) : dnMt w x b yX13_patch cX13_patch 4 (some .int) rmX13_patch eI [dnV b r0, .int p1, .int p2, .int p3] (fX13_patch r0 p1 p2 p3) := by
  have hlv : lv_args 0 [dnV b r0, .int p1, .int p2, .int p3] = [(0, dnV b r0), (1, .int p1), (2, .int p2), (3, .int p3)] := by cases r0 <;> rfl
  refine dn_mt (by decide +kernel) roI (by cases r0 <;> exact (Nat.le_of_ble_eq_true rfl)) ?_
  rw [hlv]
  refine dn_top ?_
  show jX13_patch w x b 0 0 0 _ [] (dnB _ dnP)
  unfold fX13_patch
  refine dn_aload_n (pc := 0) r0 0 dX13_patch_0 rfl ?_
  refine dn_aload_n (pc := 1) r0 0 dX13_patch_1 rfl ?_
  refine dn_iload_n (pc := 2) 1 dX13_patch_2 rfl ?_
  refine dn_iload_n (pc := 3) 2 dX13_patch_3 rfl ?_
  refine dn_iload_n (pc := 4) 3 dX13_patch_4 rfl ?_
  refine dn_callV0I (pc := 5) [.int p1, .int p2, .int p3] r0 kRX13_430 (mX13_patchAnswer w x b r0 p1 p2 p3) rfl rfl (Nat.le_of_ble_eq_true rfl) ⟨(Nat.le_of_ble_eq_true rfl), (Nat.le_of_ble_eq_true rfl)⟩ ⟨rfl, rfl, (Nat.le_of_ble_eq_true rfl), (Nat.le_of_ble_eq_true rfl)⟩ dX13_patch_5 (fun v1 => ?_)
  refine dn_callV0I (pc := 8) [.int v1] r0 kRX13_137 (mX13_said w x b r0 v1) rfl rfl (Nat.le_of_ble_eq_true rfl) ⟨(Nat.le_of_ble_eq_true rfl), (Nat.le_of_ble_eq_true rfl)⟩ ⟨rfl, rfl, (Nat.le_of_ble_eq_true rfl), (Nat.le_of_ble_eq_true rfl)⟩ dX13_patch_8 (fun v2 => ?_)
  exact dn_ret (Nat.le_of_ble_eq_true rfl) (Nat.le_of_ble_eq_true rfl) rfl dX13_patch_11
abbrev rmX13_patchesAnswer : Room := { frames := 7, cells := 0, slots := 0, locals := 168 }
def fX13_patchesAnswer_j100 (l0 : Option Nat) (l1 : Int32) (l2 : Int32) (l3 : Int32) (l4 : Int32) : dnM ((Int32 × Int32 × Int32) ⊕ (Int32 × Int32)) :=
  dnP (.inl (l2, l3, (l4 + 1)))
def fX13_patchesAnswer_j99 (l0 : Option Nat) (l1 : Int32) (l2 : Int32) (l4 : Int32) (s0 : Int32) : dnM ((Int32 × Int32 × Int32) ⊕ (Int32 × Int32)) :=
  fX13_patchesAnswer_j100 l0 l1 l2 s0 l4
def fX13_patchesAnswer_b32 (c0 : Option Nat) (c1 : Int32) (s32 : Int32 × Int32 × Int32) : dnM ((Int32 × Int32 × Int32) ⊕ (Int32 × Int32)) :=
  dnB (dnGR c0 11 4) fun v5 =>
  dnB (dnAI v5 100 c1) fun v6 =>
  if (12 * v6) ≤ s32.2.2 then
  (dnP (.inr (s32.1, s32.2.1)))
  else
  (dnB (dnGR c0 11 26) fun v7 =>
  dnB (dnAI v7 100 s32.2.2) fun v8 =>
  if ¬ v8 = 0 then
  (fX13_patchesAnswer_j100 c0 c1 s32.1 s32.2.1 s32.2.2)
  else
  (dnB (dnNz 12) fun _ =>
  dnB (dnNz 12) fun _ =>
  dnB (dnCv c0 11 (fX13_hasCell c0 c1 (s32.2.2 / 12) (s32.2.2 - s32.2.2 / 12 * 12))) fun v9 =>
  if v9 = true then
  (dnB (dnCv c0 11 (fX13_grows c0 c1 s32.2.2 (s32.1 + 1))) fun v10 =>
  if v10 ≤ s32.2.1 then
  (fX13_patchesAnswer_j99 c0 c1 (s32.1 + 1) s32.2.2 s32.2.1)
  else
  (fX13_patchesAnswer_j99 c0 c1 (s32.1 + 1) s32.2.2 v10))
  else
  (fX13_patchesAnswer_j100 c0 c1 s32.1 s32.2.1 s32.2.2)))
def fX13_patchesAnswer (r0 : Option Nat) (p1 : Int32) : dnM Int32 :=
  dnB (fX13_isGrid p1) fun v1 =>
  if v1 = true then
  (dnB (dnGR r0 11 4) fun v2 =>
  dnB (dnAI v2 100 p1) fun v3 =>
  if 0 ≤ v3 then
  (dnB (dnCv r0 11 (fX13_noMarks r0)) fun _ =>
  dnB (dnIt 1000 (fX13_patchesAnswer_b32 r0 p1) (0, 0, 0)) fun q32 =>
  dnB (dnCv r0 11 (fX13_tells r0 ((q32.2 : Int32).toInt64) q32.1)) fun v11 =>
  dnP v11)
  else
  (dnP (-2)))
  else
  (dnP (-1))
abbrev jX13_patchesAnswer (w : dnWd) (x : dnX) (b : Nat) := dnD w x b (fun _ => True) cX13_patchesAnswer RX13 6 rmX13_patchesAnswer "patchesAnswer" eI
set_option maxHeartbeats 4000000 in
set_option maxRecDepth 100000 in
theorem mX13_patchesAnswer (w : dnWd) (x : dnX) (b : Nat) (r0 : Option Nat) (p1 : Int32) : dnMt w x b yX13_patchesAnswer cX13_patchesAnswer 6 (some .int) rmX13_patchesAnswer eI [dnV b r0, .int p1] (fX13_patchesAnswer r0 p1) := by
  have hlv : lv_args 0 [dnV b r0, .int p1] = [(0, dnV b r0), (1, .int p1)] := by cases r0 <;> rfl
  refine dn_mt (by decide +kernel) roI (by cases r0 <;> exact (Nat.le_of_ble_eq_true rfl)) ?_
  rw [hlv]
  refine dn_top ?_
  show jX13_patchesAnswer w x b 0 0 0 _ [] (dnB _ dnP)
  unfold fX13_patchesAnswer
  refine dn_iload_n (pc := 0) 1 dX13_patchesAnswer_0 rfl ?_
  refine dn_callS0Z (pc := 1) [.int p1]  kRX13_134 (mX13_isGrid w x b p1) rfl rfl (Nat.le_of_ble_eq_true rfl) ⟨(Nat.le_of_ble_eq_true rfl), (Nat.le_of_ble_eq_true rfl)⟩ ⟨rfl, rfl, (Nat.le_of_ble_eq_true rfl), (Nat.le_of_ble_eq_true rfl)⟩ dX13_patchesAnswer_1 (fun v1 => ?_)
  refine dn_ifz_ne (pc := 4) 9 dX13_patchesAnswer_4 rfl (fun _ => ?_) (fun _ => ?_)
  · refine dn_aload_n (pc := 9) r0 0 dX13_patchesAnswer_9 rfl ?_
    refine dn_getR (pc := 10) r0 lRX13_17 dX13_patchesAnswer_10 (fun v2 => ?_)
    refine dn_iload_n (pc := 13) 1 dX13_patchesAnswer_13 rfl ?_
    refine dn_iald (pc := 14) v2 dX13_patchesAnswer_14 (fun v3 => ?_)
    refine dn_if_ge (pc := 15) 21 dX13_patchesAnswer_15 rfl (fun _ => ?_) (fun _ => ?_)
    · refine dn_aload_n (pc := 21) r0 0 dX13_patchesAnswer_21 rfl ?_
      refine dn_callV0U (pc := 22) [] r0 kRX13_422 (mX13_noMarks w x b r0) rfl rfl (Nat.le_of_ble_eq_true rfl) ⟨(Nat.le_of_ble_eq_true rfl), (Nat.le_of_ble_eq_true rfl)⟩ ⟨rfl, rfl, (Nat.le_of_ble_eq_true rfl), (Nat.le_of_ble_eq_true rfl)⟩ dX13_patchesAnswer_22 (fun _ => ?_)
      refine dn_iconst (pc := 25) (v := 0) dX13_patchesAnswer_25 rfl ?_
      refine dn_istore_n (pc := 26) dX13_patchesAnswer_26 (Nat.le_of_ble_eq_true rfl) (dnKp_nb 1 rfl rfl rfl (dnKp_of (lv2 := [(0, dnV b r0)]) [0] rfl rfl)) ?_
      refine dn_iconst (pc := 27) (v := 0) dX13_patchesAnswer_27 rfl ?_
      refine dn_istore_n (pc := 28) dX13_patchesAnswer_28 (Nat.le_of_ble_eq_true rfl) (dnKp_nb 0 rfl rfl rfl (dnKp_of (lv2 := [(1, .int p1), (0, dnV b r0)]) [1, 2] rfl rfl)) ?_
      refine dn_iconst (pc := 29) (v := 0) dX13_patchesAnswer_29 rfl ?_
      refine dn_istore (pc := 30) dX13_patchesAnswer_30 (Nat.le_of_ble_eq_true rfl) (dnKp_nb 0 rfl rfl rfl (dnKp_of (lv2 := [(2, .int 0), (1, .int p1), (0, dnV b r0)]) [1, 2, 3] rfl rfl)) ?_
      refine dn_assoc ?_
      refine dn_lv [4, 3, 2, 1, 0] (lv2 := (fun s => [(0, dnV b r0), (1, .int p1), (2, .int s.1), (3, .int s.2.1), (4, .int s.2.2)]) (0, 0, 0)) rfl ?_
      refine dn_loopE (pc := 32) (body := fX13_patchesAnswer_b32 r0 p1) 106 (fun s => [(0, dnV b r0), (1, .int p1), (2, .int s.1), (3, .int s.2.1), (4, .int s.2.2)]) (fun q => [(0, dnV b r0), (2, .int q.1), (3, .int q.2)]) (fun s32 K32 E32 hK32 hE32 => ?_) (fun q32 => ?_) 1000 (0, 0, 0)
      · unfold fX13_patchesAnswer_b32
        have hj100 : ∀ (l2 : Int32) (l3 : Int32) (l4 : Int32), jX13_patchesAnswer w x b 100 0 0 [(0, dnV b r0), (1, .int p1), (2, .int l2), (3, .int l3), (4, .int l4)] [] (dnB (fX13_patchesAnswer_j100 r0 p1 l2 l3 l4) (dnKo K32 E32)) := by
          intro l2 l3 l4
          unfold fX13_patchesAnswer_j100
          refine dn_iinc (pc := 100) (l4 + 1) 4 dX13_patchesAnswer_100 rfl rfl (Nat.le_of_ble_eq_true rfl) (dnKp_nb 3 rfl rfl rfl (dnKp_of (lv2 := [(0, dnV b r0), (1, .int p1), (2, .int l2)]) [0, 1, 2] rfl rfl)) ?_
          refine dn_goto (pc := 103) 32 dX13_patchesAnswer_103 rfl ?_
          refine dn_leaf ?_
          exact dn_lv [2, 3, 4, 1, 0] rfl (hK32 (l2, l3, (l4 + 1)))
        have hj99 : ∀ (l2 : Int32) (l4 : Int32) (s0 : Int32), jX13_patchesAnswer w x b 99 0 0 [(0, dnV b r0), (1, .int p1), (2, .int l2), (4, .int l4)] [.int s0] (dnB (fX13_patchesAnswer_j99 r0 p1 l2 l4 s0) (dnKo K32 E32)) := by
          intro l2 l4 s0
          unfold fX13_patchesAnswer_j99
          refine dn_istore_n (pc := 99) dX13_patchesAnswer_99 (Nat.le_of_ble_eq_true rfl) (dnKp_nb 2 rfl rfl rfl (dnKp_of (lv2 := [(0, dnV b r0), (1, .int p1), (4, .int l4)]) [0, 1, 3] rfl rfl)) ?_
          exact dn_lv [2, 3, 1, 0, 4] rfl (hj100 l2 s0 l4)
        refine dn_iload (pc := 32) 4 dX13_patchesAnswer_32 rfl ?_
        refine dn_bipush (pc := 34) (v := 12) dX13_patchesAnswer_34 rfl ?_
        refine dn_aload_n (pc := 36) r0 0 dX13_patchesAnswer_36 rfl ?_
        refine dn_getR (pc := 37) r0 lRX13_17 dX13_patchesAnswer_37 (fun v5 => ?_)
        refine dn_iload_n (pc := 40) 1 dX13_patchesAnswer_40 rfl ?_
        refine dn_iald (pc := 41) v5 dX13_patchesAnswer_41 (fun v6 => ?_)
        refine dn_imul (pc := 42) dX13_patchesAnswer_42 ?_
        refine dn_icmp_ge (pc := 43) 106 dX13_patchesAnswer_43 rfl (fun _ => ?_) (fun _ => ?_)
        · refine dn_leaf ?_
          exact dn_lv [0, 2, 3] rfl (hE32 (s32.1, s32.2.1))
        · refine dn_aload_n (pc := 46) r0 0 dX13_patchesAnswer_46 rfl ?_
          refine dn_getR (pc := 47) r0 lRX13_67 dX13_patchesAnswer_47 (fun v7 => ?_)
          refine dn_iload (pc := 50) 4 dX13_patchesAnswer_50 rfl ?_
          refine dn_iald (pc := 52) v7 dX13_patchesAnswer_52 (fun v8 => ?_)
          refine dn_if_ne (pc := 53) 100 dX13_patchesAnswer_53 rfl (fun _ => ?_) (fun _ => ?_)
          · exact dn_lv [0, 1, 2, 3, 4] rfl (hj100 s32.1 s32.2.1 s32.2.2)
          · refine dn_aload_n (pc := 56) r0 0 dX13_patchesAnswer_56 rfl ?_
            refine dn_iload_n (pc := 57) 1 dX13_patchesAnswer_57 rfl ?_
            refine dn_iload (pc := 58) 4 dX13_patchesAnswer_58 rfl ?_
            refine dn_bipush (pc := 60) (v := 12) dX13_patchesAnswer_60 rfl ?_
            refine dn_idiv (pc := 62) dX13_patchesAnswer_62 ?_
            refine dn_iload (pc := 63) 4 dX13_patchesAnswer_63 rfl ?_
            refine dn_bipush (pc := 65) (v := 12) dX13_patchesAnswer_65 rfl ?_
            refine dn_irem (pc := 67) dX13_patchesAnswer_67 ?_
            refine dn_callV0Z (pc := 68) [.int p1, .int (s32.2.2 / 12), .int (s32.2.2 - s32.2.2 / 12 * 12)] r0 kRX13_348 (mX13_hasCell w x b r0 p1 (s32.2.2 / 12) (s32.2.2 - s32.2.2 / 12 * 12)) rfl rfl (Nat.le_of_ble_eq_true rfl) ⟨(Nat.le_of_ble_eq_true rfl), (Nat.le_of_ble_eq_true rfl)⟩ ⟨rfl, rfl, (Nat.le_of_ble_eq_true rfl), (Nat.le_of_ble_eq_true rfl)⟩ dX13_patchesAnswer_68 (fun v9 => ?_)
            refine dn_ifz_eq (pc := 71) 100 dX13_patchesAnswer_71 rfl (fun _ => ?_) (fun _ => ?_)
            · refine dn_iinc (pc := 74) (s32.1 + 1) 2 dX13_patchesAnswer_74 rfl rfl (Nat.le_of_ble_eq_true rfl) (dnKp_nb 1 rfl rfl rfl (dnKp_of (lv2 := [(0, dnV b r0), (3, .int s32.2.1), (4, .int s32.2.2)]) [0, 3, 4] rfl rfl)) ?_
              refine dn_aload_n (pc := 77) r0 2 dX13_patchesAnswer_77 rfl ?_
              refine dn_iload_n (pc := 78) 1 dX13_patchesAnswer_78 rfl ?_
              refine dn_iload (pc := 79) 4 dX13_patchesAnswer_79 rfl ?_
              refine dn_iload_n (pc := 81) 0 dX13_patchesAnswer_81 rfl ?_
              refine dn_callV0I (pc := 82) [.int p1, .int s32.2.2, .int (s32.1 + 1)] r0 kRX13_425 (mX13_grows w x b r0 p1 s32.2.2 (s32.1 + 1)) rfl rfl (Nat.le_of_ble_eq_true rfl) ⟨(Nat.le_of_ble_eq_true rfl), (Nat.le_of_ble_eq_true rfl)⟩ ⟨rfl, rfl, (Nat.le_of_ble_eq_true rfl), (Nat.le_of_ble_eq_true rfl)⟩ dX13_patchesAnswer_82 (fun v10 => ?_)
              refine dn_istore (pc := 85) dX13_patchesAnswer_85 (Nat.le_of_ble_eq_true rfl) (dnKp_nb 4 rfl rfl rfl (dnKp_of (lv2 := [(2, .int (s32.1 + 1)), (1, .int p1), (0, dnV b r0), (3, .int s32.2.1)]) [0, 1, 2, 3] rfl rfl)) ?_
              refine dn_iload (pc := 87) 0 dX13_patchesAnswer_87 rfl ?_
              refine dn_iload_n (pc := 89) 5 dX13_patchesAnswer_89 rfl ?_
              refine dn_icmp_le (pc := 90) 98 dX13_patchesAnswer_90 rfl (fun _ => ?_) (fun _ => ?_)
              · refine dn_iload_n (pc := 98) 5 dX13_patchesAnswer_98 rfl ?_
                exact dn_lv [4, 3, 2, 1] rfl (hj99 (s32.1 + 1) s32.2.2 s32.2.1)
              · refine dn_iload (pc := 93) 0 dX13_patchesAnswer_93 rfl ?_
                refine dn_goto (pc := 95) 99 dX13_patchesAnswer_95 rfl ?_
                exact dn_lv [4, 3, 2, 1] rfl (hj99 (s32.1 + 1) s32.2.2 v10)
            · exact dn_lv [0, 1, 2, 3, 4] rfl (hj100 s32.1 s32.2.1 s32.2.2)
      · refine dn_aload_n (pc := 106) r0 0 dX13_patchesAnswer_106 rfl ?_
        refine dn_iload_n (pc := 107) 2 dX13_patchesAnswer_107 rfl ?_
        refine dn_i2l (pc := 108) dX13_patchesAnswer_108 ?_
        refine dn_iload_n (pc := 109) 1 dX13_patchesAnswer_109 rfl ?_
        refine dn_callV0I (pc := 110) [.long ((q32.2 : Int32).toInt64), .int q32.1] r0 kRX13_243 (mX13_tells w x b r0 ((q32.2 : Int32).toInt64) q32.1) rfl rfl (Nat.le_of_ble_eq_true rfl) ⟨(Nat.le_of_ble_eq_true rfl), (Nat.le_of_ble_eq_true rfl)⟩ ⟨rfl, rfl, (Nat.le_of_ble_eq_true rfl), (Nat.le_of_ble_eq_true rfl)⟩ dX13_patchesAnswer_110 (fun v11 => ?_)
        exact dn_ret (Nat.le_of_ble_eq_true rfl) (Nat.le_of_ble_eq_true rfl) rfl dX13_patchesAnswer_113
    · refine dn_bipush (pc := 18) (v := -2) dX13_patchesAnswer_18 rfl ?_
      exact dn_ret (Nat.le_of_ble_eq_true rfl) (Nat.le_of_ble_eq_true rfl) rfl dX13_patchesAnswer_20
  · refine dn_iconst (pc := 7) (v := -1) dX13_patchesAnswer_7 rfl ?_
    exact dn_ret (Nat.le_of_ble_eq_true rfl) (Nat.le_of_ble_eq_true rfl) rfl dX13_patchesAnswer_8
abbrev rmX13_patches : Room := { frames := 8, cells := 0, slots := 0, locals := 193 }
def fX13_patches (r0 : Option Nat) (p1 : Int32) : dnM Int32 :=
  dnB (dnCv r0 11 (fX13_patchesAnswer r0 p1)) fun v1 =>
  dnB (dnCv r0 11 (fX13_said r0 v1)) fun v2 =>
  dnP v2
abbrev jX13_patches (w : dnWd) (x : dnX) (b : Nat) := dnD w x b (fun _ => True) cX13_patches RX13 2 rmX13_patches "patches" eI
set_option maxHeartbeats 4000000 in
set_option maxRecDepth 100000 in
theorem mX13_patches (w : dnWd) (x : dnX) (b : Nat) (r0 : Option Nat) (p1 : Int32) : dnMt w x b yX13_patches cX13_patches 2 (some .int) rmX13_patches eI [dnV b r0, .int p1] (fX13_patches r0 p1) := by
  have hlv : lv_args 0 [dnV b r0, .int p1] = [(0, dnV b r0), (1, .int p1)] := by cases r0 <;> rfl
  refine dn_mt (by decide +kernel) roI (by cases r0 <;> exact (Nat.le_of_ble_eq_true rfl)) ?_
  rw [hlv]
  refine dn_top ?_
  show jX13_patches w x b 0 0 0 _ [] (dnB _ dnP)
  unfold fX13_patches
  refine dn_aload_n (pc := 0) r0 0 dX13_patches_0 rfl ?_
  refine dn_aload_n (pc := 1) r0 0 dX13_patches_1 rfl ?_
  refine dn_iload_n (pc := 2) 1 dX13_patches_2 rfl ?_
  refine dn_callV0I (pc := 3) [.int p1] r0 kRX13_433 (mX13_patchesAnswer w x b r0 p1) rfl rfl (Nat.le_of_ble_eq_true rfl) ⟨(Nat.le_of_ble_eq_true rfl), (Nat.le_of_ble_eq_true rfl)⟩ ⟨rfl, rfl, (Nat.le_of_ble_eq_true rfl), (Nat.le_of_ble_eq_true rfl)⟩ dX13_patches_3 (fun v1 => ?_)
  refine dn_callV0I (pc := 6) [.int v1] r0 kRX13_137 (mX13_said w x b r0 v1) rfl rfl (Nat.le_of_ble_eq_true rfl) ⟨(Nat.le_of_ble_eq_true rfl), (Nat.le_of_ble_eq_true rfl)⟩ ⟨rfl, rfl, (Nat.le_of_ble_eq_true rfl), (Nat.le_of_ble_eq_true rfl)⟩ dX13_patches_6 (fun v2 => ?_)
  exact dn_ret (Nat.le_of_ble_eq_true rfl) (Nat.le_of_ble_eq_true rfl) rfl dX13_patches_9
abbrev rmX13_pickDeed : Room := { frames := 4, cells := 0, slots := 0, locals := 93 }
def fX13_pickDeed_b49 (c0 : Option Nat) (c1 : Int32) (c2 : Int32) (c5 : Int32) (c6 : Int32) (s49 : Int32 × Int32) : dnM ((Int32 × Int32) ⊕ ((Int32) ⊕ Int32)) :=
  dnB (dnGR c0 11 7) fun v5 =>
  dnB (dnAI v5 100 c5) fun v6 =>
  if v6 ≤ s49.2 then
  (dnP (.inr (.inl s49.1)))
  else
  (dnB (dnGR c0 11 7) fun v7 =>
  dnB (dnAI v7 100 c6) fun v8 =>
  if s49.2 < v8 then
  (dnB (dnCv c0 11 (fX13_isReadable c0 c6 0)) fun v9 =>
  if v9 = true then
  (dnB (dnGR c0 11 10) fun v10 =>
  dnB (dnAL v10 102 ((12 * c6) + s49.2)) fun v11 =>
  dnP (.inl ((s49.1 + ((v11 : Int64).toInt32)), (s49.2 + 1))))
  else
  (dnP (.inr (.inr (-7)))))
  else
  (dnP (.inr (.inr (-6)))))
def fX13_pickDeed_j180 (l0 : Option Nat) (l1 : Int32) (l2 : Int32) (l5 : Int32) (l6 : Int32) (l7 : Int32) (l8 : Int32) (l9 : Int32) (l10 : Int32) : dnM ((Int32 × Int32) ⊕ (Unit)) :=
  dnP (.inl (l9, (l10 + 1)))
def fX13_pickDeed_b135 (c0 : Option Nat) (c1 : Int32) (c2 : Int32) (c5 : Int32) (c6 : Int32) (c7 : Int32) (c8 : Int32) (s135 : Int32 × Int32) : dnM ((Int32 × Int32) ⊕ (Unit)) :=
  dnB (dnGR c0 11 7) fun v15 =>
  dnB (dnAI v15 100 c5) fun v16 =>
  if v16 ≤ s135.2 then
  (dnP (.inr ()))
  else
  (dnB (dnGR c0 11 10) fun v17 =>
  dnB (dnAL v17 102 ((12 * c6) + s135.2)) fun v18 =>
  if ¬ (lg_cmp v18 1) = 0 then
  (fX13_pickDeed_j180 c0 c1 c2 c5 c6 c7 c8 s135.1 s135.2)
  else
  (dnB (dnCv c0 11 (fX13_copies c0 c5 s135.2 c8 s135.1)) fun _ =>
  fX13_pickDeed_j180 c0 c1 c2 c5 c6 c7 c8 (s135.1 + 1) s135.2))
def fX13_pickDeed (r0 : Option Nat) (p1 : Int32) (p2 : Int32) (p3 : Int32) : dnM Int32 :=
  dnB (fX13_isGrid p1) fun v1 =>
  if v1 = true then
  (dnB (dnCv r0 11 (fX13_twoRows r0 p1 p2 p1 p3)) fun v2 =>
  if v2 = 0 then
  (dnB (dnCv r0 11 (fX13_held r0 p1 p2)) fun v3 =>
  dnB (dnCv r0 11 (fX13_held r0 p1 p3)) fun v4 =>
  dnB (dnIt 1000 (fX13_pickDeed_b49 r0 p1 p2 v3 v4) (0, 0)) fun q_ => q_.elim (fun q49 => dnB (dnGR r0 11 6) fun v12 =>
  dnB (dnAI v12 100 v3) fun v13 =>
  dnB (dnCv r0 11 (fX13_newRow r0 v13 q49)) fun v14 =>
  dnB (dnIt 1000 (fX13_pickDeed_b135 r0 p1 p2 v3 v4 q49 v14) (0, 0)) fun q135 =>
  dnB (dnCv r0 11 (fX13_holdsNow r0 p1 p2 v14)) fun _ =>
  dnP q49) (fun v_ => dnP v_))
  else
  (dnP v2))
  else
  (dnP (-1))
abbrev jX13_pickDeed (w : dnWd) (x : dnX) (b : Nat) := dnD w x b (fun _ => True) cX13_pickDeed RX13 11 rmX13_pickDeed "pickDeed" eI
set_option maxHeartbeats 4000000 in
set_option maxRecDepth 100000 in
theorem mX13_pickDeed (w : dnWd) (x : dnX) (b : Nat) (r0 : Option Nat) (p1 : Int32) (p2 : Int32) (p3 : Int32) : dnMt w x b yX13_pickDeed cX13_pickDeed 11 (some .int) rmX13_pickDeed eI [dnV b r0, .int p1, .int p2, .int p3] (fX13_pickDeed r0 p1 p2 p3) := by
  have hlv : lv_args 0 [dnV b r0, .int p1, .int p2, .int p3] = [(0, dnV b r0), (1, .int p1), (2, .int p2), (3, .int p3)] := by cases r0 <;> rfl
  refine dn_mt (by decide +kernel) roI (by cases r0 <;> exact (Nat.le_of_ble_eq_true rfl)) ?_
  rw [hlv]
  refine dn_top ?_
  show jX13_pickDeed w x b 0 0 0 _ [] (dnB _ dnP)
  unfold fX13_pickDeed
  refine dn_iload_n (pc := 0) 1 dX13_pickDeed_0 rfl ?_
  refine dn_callS0Z (pc := 1) [.int p1]  kRX13_134 (mX13_isGrid w x b p1) rfl rfl (Nat.le_of_ble_eq_true rfl) ⟨(Nat.le_of_ble_eq_true rfl), (Nat.le_of_ble_eq_true rfl)⟩ ⟨rfl, rfl, (Nat.le_of_ble_eq_true rfl), (Nat.le_of_ble_eq_true rfl)⟩ dX13_pickDeed_1 (fun v1 => ?_)
  refine dn_ifz_ne (pc := 4) 9 dX13_pickDeed_4 rfl (fun _ => ?_) (fun _ => ?_)
  · refine dn_aload_n (pc := 9) r0 0 dX13_pickDeed_9 rfl ?_
    refine dn_iload_n (pc := 10) 1 dX13_pickDeed_10 rfl ?_
    refine dn_iload_n (pc := 11) 2 dX13_pickDeed_11 rfl ?_
    refine dn_iload_n (pc := 12) 1 dX13_pickDeed_12 rfl ?_
    refine dn_iload_n (pc := 13) 3 dX13_pickDeed_13 rfl ?_
    refine dn_callV0I (pc := 14) [.int p1, .int p2, .int p1, .int p3] r0 kRX13_181 (mX13_twoRows w x b r0 p1 p2 p1 p3) rfl rfl (Nat.le_of_ble_eq_true rfl) ⟨(Nat.le_of_ble_eq_true rfl), (Nat.le_of_ble_eq_true rfl)⟩ ⟨rfl, rfl, (Nat.le_of_ble_eq_true rfl), (Nat.le_of_ble_eq_true rfl)⟩ dX13_pickDeed_14 (fun v2 => ?_)
    refine dn_istore (pc := 17) dX13_pickDeed_17 (Nat.le_of_ble_eq_true rfl) (dnKp_nb 3 rfl rfl rfl (dnKp_of (lv2 := [(0, dnV b r0), (1, .int p1), (2, .int p2)]) [0, 1, 2] rfl rfl)) ?_
    refine dn_iload (pc := 19) 0 dX13_pickDeed_19 rfl ?_
    refine dn_if_eq (pc := 21) 27 dX13_pickDeed_21 rfl (fun _ => ?_) (fun _ => ?_)
    · refine dn_aload_n (pc := 27) r0 2 dX13_pickDeed_27 rfl ?_
      refine dn_iload_n (pc := 28) 3 dX13_pickDeed_28 rfl ?_
      refine dn_iload_n (pc := 29) 4 dX13_pickDeed_29 rfl ?_
      refine dn_callV0I (pc := 30) [.int p1, .int p2] r0 kRX13_128 (mX13_held w x b r0 p1 p2) rfl rfl (Nat.le_of_ble_eq_true rfl) ⟨(Nat.le_of_ble_eq_true rfl), (Nat.le_of_ble_eq_true rfl)⟩ ⟨rfl, rfl, (Nat.le_of_ble_eq_true rfl), (Nat.le_of_ble_eq_true rfl)⟩ dX13_pickDeed_30 (fun v3 => ?_)
      refine dn_istore (pc := 33) dX13_pickDeed_33 (Nat.le_of_ble_eq_true rfl) (dnKp_of (lv2 := [(3, .int p3), (0, dnV b r0), (1, .int p1), (2, .int p2)]) [1, 2, 3, 4] rfl rfl) ?_
      refine dn_aload_n (pc := 35) r0 2 dX13_pickDeed_35 rfl ?_
      refine dn_iload_n (pc := 36) 3 dX13_pickDeed_36 rfl ?_
      refine dn_iload_n (pc := 37) 1 dX13_pickDeed_37 rfl ?_
      refine dn_callV0I (pc := 38) [.int p1, .int p3] r0 kRX13_128 (mX13_held w x b r0 p1 p3) rfl rfl (Nat.le_of_ble_eq_true rfl) ⟨(Nat.le_of_ble_eq_true rfl), (Nat.le_of_ble_eq_true rfl)⟩ ⟨rfl, rfl, (Nat.le_of_ble_eq_true rfl), (Nat.le_of_ble_eq_true rfl)⟩ dX13_pickDeed_38 (fun v4 => ?_)
      refine dn_istore (pc := 41) dX13_pickDeed_41 (Nat.le_of_ble_eq_true rfl) (dnKp_nb 0 rfl rfl rfl (dnKp_of (lv2 := [(0, dnV b r0), (1, .int p1), (2, .int p2)]) [2, 3, 4] rfl rfl)) ?_
      refine dn_iconst (pc := 43) (v := 0) dX13_pickDeed_43 rfl ?_
      refine dn_istore (pc := 44) dX13_pickDeed_44 (Nat.le_of_ble_eq_true rfl) (dnKp_nb 0 rfl rfl rfl (dnKp_of (lv2 := [(5, .int v3), (0, dnV b r0), (1, .int p1), (2, .int p2)]) [1, 2, 3, 4] rfl rfl)) ?_
      refine dn_iconst (pc := 46) (v := 0) dX13_pickDeed_46 rfl ?_
      refine dn_istore (pc := 47) dX13_pickDeed_47 (Nat.le_of_ble_eq_true rfl) (dnKp_nb 0 rfl rfl rfl (dnKp_of (lv2 := [(6, .int v4), (5, .int v3), (0, dnV b r0), (1, .int p1), (2, .int p2)]) [1, 2, 3, 4, 5] rfl rfl)) ?_
      refine dn_assoc ?_
      refine dn_lv [4, 5, 6, 3, 2, 1, 0] (lv2 := (fun s => [(0, dnV b r0), (1, .int p1), (2, .int p2), (5, .int v3), (6, .int v4), (7, .int s.1), (8, .int s.2)]) (0, 0)) rfl ?_
      refine dn_loopR (pc := 49) (body := fX13_pickDeed_b49 r0 p1 p2 v3 v4) 114 (fun s => [(0, dnV b r0), (1, .int p1), (2, .int p2), (5, .int v3), (6, .int v4), (7, .int s.1), (8, .int s.2)]) (fun q => [(0, dnV b r0), (1, .int p1), (2, .int p2), (5, .int v3), (6, .int v4), (7, .int q)]) (fun s49 K49 E49 hK49 hE49 hR49 => ?_) (dn_rt (Nat.le_of_ble_eq_true rfl) (Nat.le_of_ble_eq_true rfl) (fun _ => rfl)) (fun q49 => ?_) 1000 (0, 0)
      · unfold fX13_pickDeed_b49
        refine dn_iload (pc := 49) 6 dX13_pickDeed_49 rfl ?_
        refine dn_aload_n (pc := 51) r0 0 dX13_pickDeed_51 rfl ?_
        refine dn_getR (pc := 52) r0 lRX13_26 dX13_pickDeed_52 (fun v5 => ?_)
        refine dn_iload (pc := 55) 3 dX13_pickDeed_55 rfl ?_
        refine dn_iald (pc := 57) v5 dX13_pickDeed_57 (fun v6 => ?_)
        refine dn_icmp_ge (pc := 58) 114 dX13_pickDeed_58 rfl (fun _ => ?_) (fun _ => ?_)
        · refine dn_leaf ?_
          exact dn_lv [0, 1, 2, 3, 4, 5] rfl (hE49 s49.1)
        · refine dn_iload (pc := 61) 6 dX13_pickDeed_61 rfl ?_
          refine dn_aload_n (pc := 63) r0 0 dX13_pickDeed_63 rfl ?_
          refine dn_getR (pc := 64) r0 lRX13_26 dX13_pickDeed_64 (fun v7 => ?_)
          refine dn_iload (pc := 67) 4 dX13_pickDeed_67 rfl ?_
          refine dn_iald (pc := 69) v7 dX13_pickDeed_69 (fun v8 => ?_)
          refine dn_icmp_lt (pc := 70) 76 dX13_pickDeed_70 rfl (fun _ => ?_) (fun _ => ?_)
          · refine dn_aload_n (pc := 76) r0 0 dX13_pickDeed_76 rfl ?_
            refine dn_iload (pc := 77) 4 dX13_pickDeed_77 rfl ?_
            refine dn_iconst (pc := 79) (v := 0) dX13_pickDeed_79 rfl ?_
            refine dn_callV0Z (pc := 80) [.int v4, .int 0] r0 kRX13_233 (mX13_isReadable w x b r0 v4 0) rfl rfl (Nat.le_of_ble_eq_true rfl) ⟨(Nat.le_of_ble_eq_true rfl), (Nat.le_of_ble_eq_true rfl)⟩ ⟨rfl, rfl, (Nat.le_of_ble_eq_true rfl), (Nat.le_of_ble_eq_true rfl)⟩ dX13_pickDeed_80 (fun v9 => ?_)
            refine dn_ifz_ne (pc := 83) 89 dX13_pickDeed_83 rfl (fun _ => ?_) (fun _ => ?_)
            · refine dn_iload (pc := 89) 5 dX13_pickDeed_89 rfl ?_
              refine dn_aload_n (pc := 91) r0 0 dX13_pickDeed_91 rfl ?_
              refine dn_getR (pc := 92) r0 lRX13_35 dX13_pickDeed_92 (fun v10 => ?_)
              refine dn_bipush (pc := 95) (v := 12) dX13_pickDeed_95 rfl ?_
              refine dn_iload (pc := 97) 4 dX13_pickDeed_97 rfl ?_
              refine dn_imul (pc := 99) dX13_pickDeed_99 ?_
              refine dn_iload (pc := 100) 6 dX13_pickDeed_100 rfl ?_
              refine dn_iadd (pc := 102) dX13_pickDeed_102 ?_
              refine dn_lald (pc := 103) v10 dX13_pickDeed_103 (fun v11 => ?_)
              refine dn_l2i (pc := 104) dX13_pickDeed_104 ?_
              refine dn_iadd (pc := 105) dX13_pickDeed_105 ?_
              refine dn_istore (pc := 106) dX13_pickDeed_106 (Nat.le_of_ble_eq_true rfl) (dnKp_nb 4 rfl rfl rfl (dnKp_of (lv2 := [(0, dnV b r0), (1, .int p1), (2, .int p2), (5, .int v3), (8, .int s49.2)]) [0, 1, 2, 3, 6] rfl rfl)) ?_
              refine dn_iinc (pc := 108) (s49.2 + 1) 6 dX13_pickDeed_108 rfl rfl (Nat.le_of_ble_eq_true rfl) (dnKp_nb 0 rfl rfl rfl (dnKp_of (lv2 := [(6, .int v4), (0, dnV b r0), (1, .int p1), (2, .int p2), (5, .int v3)]) [1, 2, 3, 4, 5] rfl rfl)) ?_
              refine dn_goto (pc := 111) 49 dX13_pickDeed_111 rfl ?_
              refine dn_leaf ?_
              exact dn_lv [3, 4, 5, 6, 2, 1, 0] rfl (hK49 ((s49.1 + ((v11 : Int64).toInt32)), (s49.2 + 1)))
            · refine dn_bipush (pc := 86) (v := -7) dX13_pickDeed_86 rfl ?_
              refine dn_leaf ?_
              exact hR49 (-7) _ _ _ rfl dX13_pickDeed_88
          · refine dn_bipush (pc := 73) (v := -6) dX13_pickDeed_73 rfl ?_
            refine dn_leaf ?_
            exact hR49 (-6) _ _ _ rfl dX13_pickDeed_75
      · dsimp only [Sum.elim_inl]
        refine dn_aload_n (pc := 114) r0 0 dX13_pickDeed_114 rfl ?_
        refine dn_aload_n (pc := 115) r0 0 dX13_pickDeed_115 rfl ?_
        refine dn_getR (pc := 116) r0 lRX13_23 dX13_pickDeed_116 (fun v12 => ?_)
        refine dn_iload (pc := 119) 3 dX13_pickDeed_119 rfl ?_
        refine dn_iald (pc := 121) v12 dX13_pickDeed_121 (fun v13 => ?_)
        refine dn_iload (pc := 122) 5 dX13_pickDeed_122 rfl ?_
        refine dn_callV0I (pc := 124) [.int v13, .int q49] r0 kRX13_155 (mX13_newRow w x b r0 v13 q49) rfl rfl (Nat.le_of_ble_eq_true rfl) ⟨(Nat.le_of_ble_eq_true rfl), (Nat.le_of_ble_eq_true rfl)⟩ ⟨rfl, rfl, (Nat.le_of_ble_eq_true rfl), (Nat.le_of_ble_eq_true rfl)⟩ dX13_pickDeed_124 (fun v14 => ?_)
        refine dn_istore (pc := 127) dX13_pickDeed_127 (Nat.le_of_ble_eq_true rfl) (dnKp_nb 5 rfl rfl rfl (dnKp_of (lv2 := [(0, dnV b r0), (1, .int p1), (2, .int p2), (5, .int v3), (6, .int v4)]) [0, 1, 2, 3, 4] rfl rfl)) ?_
        refine dn_iconst (pc := 129) (v := 0) dX13_pickDeed_129 rfl ?_
        refine dn_istore (pc := 130) dX13_pickDeed_130 (Nat.le_of_ble_eq_true rfl) (dnKp_nb 0 rfl rfl rfl (dnKp_of (lv2 := [(7, .int q49), (0, dnV b r0), (1, .int p1), (2, .int p2), (5, .int v3), (6, .int v4)]) [1, 2, 3, 4, 5, 6] rfl rfl)) ?_
        refine dn_iconst (pc := 132) (v := 0) dX13_pickDeed_132 rfl ?_
        refine dn_istore (pc := 133) dX13_pickDeed_133 (Nat.le_of_ble_eq_true rfl) (dnKp_nb 0 rfl rfl rfl (dnKp_of (lv2 := [(8, .int v14), (7, .int q49), (0, dnV b r0), (1, .int p1), (2, .int p2), (5, .int v3), (6, .int v4)]) [1, 2, 3, 4, 5, 6, 7] rfl rfl)) ?_
        refine dn_assoc ?_
        refine dn_lv [4, 5, 6, 7, 8, 3, 2, 1, 0] (lv2 := (fun s => [(0, dnV b r0), (1, .int p1), (2, .int p2), (5, .int v3), (6, .int v4), (7, .int q49), (8, .int v14), (9, .int s.1), (10, .int s.2)]) (0, 0)) rfl ?_
        refine dn_loopE (pc := 135) (body := fX13_pickDeed_b135 r0 p1 p2 v3 v4 q49 v14) 186 (fun s => [(0, dnV b r0), (1, .int p1), (2, .int p2), (5, .int v3), (6, .int v4), (7, .int q49), (8, .int v14), (9, .int s.1), (10, .int s.2)]) (fun q => [(0, dnV b r0), (1, .int p1), (2, .int p2), (7, .int q49), (8, .int v14)]) (fun s135 K135 E135 hK135 hE135 => ?_) (fun q135 => ?_) 1000 (0, 0)
        · unfold fX13_pickDeed_b135
          have hj180 : ∀ (l9 : Int32) (l10 : Int32), jX13_pickDeed w x b 180 0 0 [(0, dnV b r0), (1, .int p1), (2, .int p2), (5, .int v3), (6, .int v4), (7, .int q49), (8, .int v14), (9, .int l9), (10, .int l10)] [] (dnB (fX13_pickDeed_j180 r0 p1 p2 v3 v4 q49 v14 l9 l10) (dnKo K135 E135)) := by
            intro l9 l10
            unfold fX13_pickDeed_j180
            refine dn_iinc (pc := 180) (l10 + 1) 8 dX13_pickDeed_180 rfl rfl (Nat.le_of_ble_eq_true rfl) (dnKp_nb 7 rfl rfl rfl (dnKp_of (lv2 := [(0, dnV b r0), (1, .int p1), (2, .int p2), (5, .int v3), (6, .int v4), (7, .int q49), (8, .int v14)]) [0, 1, 2, 3, 4, 5, 6] rfl rfl)) ?_
            refine dn_goto (pc := 183) 135 dX13_pickDeed_183 rfl ?_
            refine dn_leaf ?_
            exact dn_lv [2, 3, 4, 5, 6, 7, 8, 1, 0] rfl (hK135 (l9, (l10 + 1)))
          refine dn_iload (pc := 135) 8 dX13_pickDeed_135 rfl ?_
          refine dn_aload_n (pc := 137) r0 0 dX13_pickDeed_137 rfl ?_
          refine dn_getR (pc := 138) r0 lRX13_26 dX13_pickDeed_138 (fun v15 => ?_)
          refine dn_iload (pc := 141) 3 dX13_pickDeed_141 rfl ?_
          refine dn_iald (pc := 143) v15 dX13_pickDeed_143 (fun v16 => ?_)
          refine dn_icmp_ge (pc := 144) 186 dX13_pickDeed_144 rfl (fun _ => ?_) (fun _ => ?_)
          · refine dn_leaf ?_
            exact dn_lv [0, 1, 2, 5, 6] rfl (hE135 ())
          · refine dn_aload_n (pc := 147) r0 0 dX13_pickDeed_147 rfl ?_
            refine dn_getR (pc := 148) r0 lRX13_35 dX13_pickDeed_148 (fun v17 => ?_)
            refine dn_bipush (pc := 151) (v := 12) dX13_pickDeed_151 rfl ?_
            refine dn_iload (pc := 153) 4 dX13_pickDeed_153 rfl ?_
            refine dn_imul (pc := 155) dX13_pickDeed_155 ?_
            refine dn_iload (pc := 156) 8 dX13_pickDeed_156 rfl ?_
            refine dn_iadd (pc := 158) dX13_pickDeed_158 ?_
            refine dn_lald (pc := 159) v17 dX13_pickDeed_159 (fun v18 => ?_)
            refine dn_lconst (pc := 160) (v := 1) dX13_pickDeed_160 rfl ?_
            refine dn_lcmp (pc := 161) dX13_pickDeed_161 ?_
            refine dn_if_ne (pc := 162) 180 dX13_pickDeed_162 rfl (fun _ => ?_) (fun _ => ?_)
            · exact dn_lv [0, 1, 2, 3, 4, 5, 6, 7, 8] rfl (hj180 s135.1 s135.2)
            · refine dn_aload_n (pc := 165) r0 0 dX13_pickDeed_165 rfl ?_
              refine dn_iload (pc := 166) 3 dX13_pickDeed_166 rfl ?_
              refine dn_iload (pc := 168) 8 dX13_pickDeed_168 rfl ?_
              refine dn_iload (pc := 170) 6 dX13_pickDeed_170 rfl ?_
              refine dn_iload (pc := 172) 7 dX13_pickDeed_172 rfl ?_
              refine dn_callV0U (pc := 174) [.int v3, .int s135.2, .int v14, .int s135.1] r0 kRX13_280 (mX13_copies w x b r0 v3 s135.2 v14 s135.1) rfl rfl (Nat.le_of_ble_eq_true rfl) ⟨(Nat.le_of_ble_eq_true rfl), (Nat.le_of_ble_eq_true rfl)⟩ ⟨rfl, rfl, (Nat.le_of_ble_eq_true rfl), (Nat.le_of_ble_eq_true rfl)⟩ dX13_pickDeed_174 (fun _ => ?_)
              refine dn_iinc (pc := 177) (s135.1 + 1) 7 dX13_pickDeed_177 rfl rfl (Nat.le_of_ble_eq_true rfl) (dnKp_nb 6 rfl rfl rfl (dnKp_of (lv2 := [(0, dnV b r0), (1, .int p1), (2, .int p2), (5, .int v3), (6, .int v4), (7, .int q49), (10, .int s135.2)]) [0, 1, 2, 3, 4, 5, 8] rfl rfl)) ?_
              exact dn_lv [2, 3, 4, 5, 6, 7, 1, 0, 8] rfl (hj180 (s135.1 + 1) s135.2)
        · refine dn_aload_n (pc := 186) r0 0 dX13_pickDeed_186 rfl ?_
          refine dn_iload_n (pc := 187) 1 dX13_pickDeed_187 rfl ?_
          refine dn_iload_n (pc := 188) 2 dX13_pickDeed_188 rfl ?_
          refine dn_iload (pc := 189) 4 dX13_pickDeed_189 rfl ?_
          refine dn_callV0U (pc := 191) [.int p1, .int p2, .int v14] r0 kRX13_145 (mX13_holdsNow w x b r0 p1 p2 v14) rfl rfl (Nat.le_of_ble_eq_true rfl) ⟨(Nat.le_of_ble_eq_true rfl), (Nat.le_of_ble_eq_true rfl)⟩ ⟨rfl, rfl, (Nat.le_of_ble_eq_true rfl), (Nat.le_of_ble_eq_true rfl)⟩ dX13_pickDeed_191 (fun _ => ?_)
          refine dn_iload (pc := 194) 3 dX13_pickDeed_194 rfl ?_
          exact dn_ret (Nat.le_of_ble_eq_true rfl) (Nat.le_of_ble_eq_true rfl) rfl dX13_pickDeed_196
    · refine dn_iload (pc := 24) 0 dX13_pickDeed_24 rfl ?_
      exact dn_ret (Nat.le_of_ble_eq_true rfl) (Nat.le_of_ble_eq_true rfl) rfl dX13_pickDeed_26
  · refine dn_iconst (pc := 7) (v := -1) dX13_pickDeed_7 rfl ?_
    exact dn_ret (Nat.le_of_ble_eq_true rfl) (Nat.le_of_ble_eq_true rfl) rfl dX13_pickDeed_8
