abbrev rmX13_cast : Room := { frames := 5, cells := 0, slots := 0, locals := 116 }
def fX13_cast (r0 : Option Nat) (p1 : Int32) (p2 : Int32) (p3 : Int32) : dnM Int32 :=
  dnB (dnCv r0 11 (fX13_castDeed r0 p1 p2 p3)) fun v1 =>
  dnB (dnCv r0 11 (fX13_said r0 v1)) fun v2 =>
  dnP v2
abbrev jX13_cast (w : dnWd) (x : dnX) (b : Nat) := dnD w x b (fun _ => True) cX13_cast RX13 4 rmX13_cast "cast" eI
set_option maxHeartbeats 4000000 in
set_option maxRecDepth 100000 in
theorem mX13_cast (w : dnWd) (x : dnX) (b : Nat) (r0 : Option Nat) (p1 : Int32) (p2 : Int32) (p3 : Int32) : dnMt w x b yX13_cast cX13_cast 4 (some .int) rmX13_cast eI [dnV b r0, .int p1, .int p2, .int p3] (fX13_cast r0 p1 p2 p3) := by
  have hlv : lv_args 0 [dnV b r0, .int p1, .int p2, .int p3] = [(0, dnV b r0), (1, .int p1), (2, .int p2), (3, .int p3)] := by cases r0 <;> rfl
  refine dn_mt (by decide +kernel) roI (by cases r0 <;> exact (Nat.le_of_ble_eq_true rfl)) ?_
  rw [hlv]
  refine dn_top ?_
  show jX13_cast w x b 0 0 0 _ [] (dnB _ dnP)
  unfold fX13_cast
  refine dn_aload_n (pc := 0) r0 0 dX13_cast_0 rfl ?_
  refine dn_aload_n (pc := 1) r0 0 dX13_cast_1 rfl ?_
  refine dn_iload_n (pc := 2) 1 dX13_cast_2 rfl ?_
  refine dn_iload_n (pc := 3) 2 dX13_cast_3 rfl ?_
  refine dn_iload_n (pc := 4) 3 dX13_cast_4 rfl ?_
  refine dn_callV0I (pc := 5) [.int p1, .int p2, .int p3] r0 kRX13_288 (mX13_castDeed w x b r0 p1 p2 p3) rfl rfl (Nat.le_of_ble_eq_true rfl) ⟨(Nat.le_of_ble_eq_true rfl), (Nat.le_of_ble_eq_true rfl)⟩ ⟨rfl, rfl, (Nat.le_of_ble_eq_true rfl), (Nat.le_of_ble_eq_true rfl)⟩ dX13_cast_5 (fun v1 => ?_)
  refine dn_callV0I (pc := 8) [.int v1] r0 kRX13_137 (mX13_said w x b r0 v1) rfl rfl (Nat.le_of_ble_eq_true rfl) ⟨(Nat.le_of_ble_eq_true rfl), (Nat.le_of_ble_eq_true rfl)⟩ ⟨rfl, rfl, (Nat.le_of_ble_eq_true rfl), (Nat.le_of_ble_eq_true rfl)⟩ dX13_cast_8 (fun v2 => ?_)
  exact dn_ret (Nat.le_of_ble_eq_true rfl) (Nat.le_of_ble_eq_true rfl) rfl dX13_cast_11
abbrev rmX13_cellAt : Room := { frames := 1, cells := 0, slots := 0, locals := 22 }
def fX13_cellAt (r0 : Option Nat) (p1 : Int32) (p2 : Int32) : dnM Int32 :=
  dnB (dnNz 12) fun _ =>
  dnB (dnCv r0 11 (fX13_held r0 p1 (p2 / 12))) fun v1 =>
  dnB (dnNz 12) fun _ =>
  dnP ((12 * v1) + (p2 - p2 / 12 * 12))
abbrev jX13_cellAt (w : dnWd) (x : dnX) (b : Nat) := dnD w x b (fun _ => True) cX13_cellAt RX13 3 rmX13_cellAt "cellAt" eI
set_option maxHeartbeats 4000000 in
set_option maxRecDepth 100000 in
theorem mX13_cellAt (w : dnWd) (x : dnX) (b : Nat) (r0 : Option Nat) (p1 : Int32) (p2 : Int32) : dnMt w x b yX13_cellAt cX13_cellAt 3 (some .int) rmX13_cellAt eI [dnV b r0, .int p1, .int p2] (fX13_cellAt r0 p1 p2) := by
  have hlv : lv_args 0 [dnV b r0, .int p1, .int p2] = [(0, dnV b r0), (1, .int p1), (2, .int p2)] := by cases r0 <;> rfl
  refine dn_mt (by decide +kernel) roI (by cases r0 <;> exact (Nat.le_of_ble_eq_true rfl)) ?_
  rw [hlv]
  refine dn_top ?_
  show jX13_cellAt w x b 0 0 0 _ [] (dnB _ dnP)
  unfold fX13_cellAt
  refine dn_bipush (pc := 0) (v := 12) dX13_cellAt_0 rfl ?_
  refine dn_aload_n (pc := 2) r0 0 dX13_cellAt_2 rfl ?_
  refine dn_iload_n (pc := 3) 1 dX13_cellAt_3 rfl ?_
  refine dn_iload_n (pc := 4) 2 dX13_cellAt_4 rfl ?_
  refine dn_bipush (pc := 5) (v := 12) dX13_cellAt_5 rfl ?_
  refine dn_idiv (pc := 7) dX13_cellAt_7 ?_
  refine dn_callV0I (pc := 8) [.int p1, .int (p2 / 12)] r0 kRX13_128 (mX13_held w x b r0 p1 (p2 / 12)) rfl rfl (Nat.le_of_ble_eq_true rfl) ⟨(Nat.le_of_ble_eq_true rfl), (Nat.le_of_ble_eq_true rfl)⟩ ⟨rfl, rfl, (Nat.le_of_ble_eq_true rfl), (Nat.le_of_ble_eq_true rfl)⟩ dX13_cellAt_8 (fun v1 => ?_)
  refine dn_imul (pc := 11) dX13_cellAt_11 ?_
  refine dn_iload_n (pc := 12) 2 dX13_cellAt_12 rfl ?_
  refine dn_bipush (pc := 13) (v := 12) dX13_cellAt_13 rfl ?_
  refine dn_irem (pc := 15) dX13_cellAt_15 ?_
  refine dn_iadd (pc := 16) dX13_cellAt_16 ?_
  exact dn_ret (Nat.le_of_ble_eq_true rfl) (Nat.le_of_ble_eq_true rfl) rfl dX13_cellAt_17
abbrev rmX13_cellFault : Room := { frames := 3, cells := 0, slots := 0, locals := 68 }
def fX13_cellFault (r0 : Option Nat) (p1 : Int32) (p2 : Int32) (p3 : Int32) : dnM Int32 :=
  dnB (dnCv r0 11 (fX13_rowFault r0 p1 p2)) fun v1 =>
  if v1 = 0 then
  (dnB (dnGR r0 11 7) fun v2 =>
  dnB (dnCv r0 11 (fX13_held r0 p1 p2)) fun v3 =>
  dnB (dnAI v2 100 v3) fun v4 =>
  dnB (fX13_in p3 0 (v4 - 1)) fun v5 =>
  if v5 = true then
  (dnP 0)
  else
  (dnP (-6)))
  else
  (dnP v1)
abbrev jX13_cellFault (w : dnWd) (x : dnX) (b : Nat) := dnD w x b (fun _ => True) cX13_cellFault RX13 5 rmX13_cellFault "cellFault" eI
set_option maxHeartbeats 4000000 in
set_option maxRecDepth 100000 in
theorem mX13_cellFault (w : dnWd) (x : dnX) (b : Nat) (r0 : Option Nat) (p1 : Int32) (p2 : Int32) (p3 : Int32) : dnMt w x b yX13_cellFault cX13_cellFault 5 (some .int) rmX13_cellFault eI [dnV b r0, .int p1, .int p2, .int p3] (fX13_cellFault r0 p1 p2 p3) := by
  have hlv : lv_args 0 [dnV b r0, .int p1, .int p2, .int p3] = [(0, dnV b r0), (1, .int p1), (2, .int p2), (3, .int p3)] := by cases r0 <;> rfl
  refine dn_mt (by decide +kernel) roI (by cases r0 <;> exact (Nat.le_of_ble_eq_true rfl)) ?_
  rw [hlv]
  refine dn_top ?_
  show jX13_cellFault w x b 0 0 0 _ [] (dnB _ dnP)
  unfold fX13_cellFault
  refine dn_aload_n (pc := 0) r0 0 dX13_cellFault_0 rfl ?_
  refine dn_iload_n (pc := 1) 1 dX13_cellFault_1 rfl ?_
  refine dn_iload_n (pc := 2) 2 dX13_cellFault_2 rfl ?_
  refine dn_callV0I (pc := 3) [.int p1, .int p2] r0 kRX13_131 (mX13_rowFault w x b r0 p1 p2) rfl rfl (Nat.le_of_ble_eq_true rfl) ⟨(Nat.le_of_ble_eq_true rfl), (Nat.le_of_ble_eq_true rfl)⟩ ⟨rfl, rfl, (Nat.le_of_ble_eq_true rfl), (Nat.le_of_ble_eq_true rfl)⟩ dX13_cellFault_3 (fun v1 => ?_)
  refine dn_istore (pc := 6) dX13_cellFault_6 (Nat.le_of_ble_eq_true rfl) (dnKp_nb 3 rfl rfl rfl (dnKp_of (lv2 := [(0, dnV b r0), (1, .int p1), (2, .int p2)]) [0, 1, 2] rfl rfl)) ?_
  refine dn_iload (pc := 8) 0 dX13_cellFault_8 rfl ?_
  refine dn_if_eq (pc := 10) 18 dX13_cellFault_10 rfl (fun _ => ?_) (fun _ => ?_)
  · refine dn_iload_n (pc := 18) 1 dX13_cellFault_18 rfl ?_
    refine dn_iconst (pc := 19) (v := 0) dX13_cellFault_19 rfl ?_
    refine dn_aload_n (pc := 20) r0 2 dX13_cellFault_20 rfl ?_
    refine dn_getR (pc := 21) r0 lRX13_26 dX13_cellFault_21 (fun v2 => ?_)
    refine dn_aload_n (pc := 24) r0 2 dX13_cellFault_24 rfl ?_
    refine dn_iload_n (pc := 25) 3 dX13_cellFault_25 rfl ?_
    refine dn_iload_n (pc := 26) 4 dX13_cellFault_26 rfl ?_
    refine dn_callV0I (pc := 27) [.int p1, .int p2] r0 kRX13_128 (mX13_held w x b r0 p1 p2) rfl rfl (Nat.le_of_ble_eq_true rfl) ⟨(Nat.le_of_ble_eq_true rfl), (Nat.le_of_ble_eq_true rfl)⟩ ⟨rfl, rfl, (Nat.le_of_ble_eq_true rfl), (Nat.le_of_ble_eq_true rfl)⟩ dX13_cellFault_27 (fun v3 => ?_)
    refine dn_iald (pc := 30) v2 dX13_cellFault_30 (fun v4 => ?_)
    refine dn_iconst (pc := 31) (v := 1) dX13_cellFault_31 rfl ?_
    refine dn_isub (pc := 32) dX13_cellFault_32 ?_
    refine dn_callS0Z (pc := 33) [.int p3, .int 0, .int (v4 - 1)]  kRX13_109 (mX13_in w x b p3 0 (v4 - 1)) rfl rfl (Nat.le_of_ble_eq_true rfl) ⟨(Nat.le_of_ble_eq_true rfl), (Nat.le_of_ble_eq_true rfl)⟩ ⟨rfl, rfl, (Nat.le_of_ble_eq_true rfl), (Nat.le_of_ble_eq_true rfl)⟩ dX13_cellFault_33 (fun v5 => ?_)
    refine dn_ifz_eq (pc := 36) 43 dX13_cellFault_36 rfl (fun _ => ?_) (fun _ => ?_)
    · refine dn_iconst (pc := 39) (v := 0) dX13_cellFault_39 rfl ?_
      refine dn_goto (pc := 40) 45 dX13_cellFault_40 rfl ?_
      exact dn_ret (Nat.le_of_ble_eq_true rfl) (Nat.le_of_ble_eq_true rfl) rfl dX13_cellFault_45
    · refine dn_bipush (pc := 43) (v := -6) dX13_cellFault_43 rfl ?_
      exact dn_ret (Nat.le_of_ble_eq_true rfl) (Nat.le_of_ble_eq_true rfl) rfl dX13_cellFault_45
  · refine dn_iload (pc := 13) 0 dX13_cellFault_13 rfl ?_
    refine dn_goto (pc := 15) 45 dX13_cellFault_15 rfl ?_
    exact dn_ret (Nat.le_of_ble_eq_true rfl) (Nat.le_of_ble_eq_true rfl) rfl dX13_cellFault_45
abbrev rmX13_clear : Room := { frames := 0, cells := 0, slots := 0, locals := 0 }
def fX13_clear (r0 : Option Nat) : dnM Int32 :=
  dnB (dnGI r0 11 37) fun v1 =>
  dnB (dnPI r0 11 37 0) fun _ =>
  dnP v1
abbrev jX13_clear (w : dnWd) (x : dnX) (b : Nat) := dnD w x b (fun _ => True) cX13_clear RX13 2 rmX13_clear "clear" eI
set_option maxHeartbeats 4000000 in
set_option maxRecDepth 100000 in
theorem mX13_clear (w : dnWd) (x : dnX) (b : Nat) (r0 : Option Nat) : dnMt w x b yX13_clear cX13_clear 2 (some .int) rmX13_clear eI [dnV b r0] (fX13_clear r0) := by
  have hlv : lv_args 0 [dnV b r0] = [(0, dnV b r0)] := by cases r0 <;> rfl
  refine dn_mt (by decide +kernel) roI (by cases r0 <;> exact (Nat.le_of_ble_eq_true rfl)) ?_
  rw [hlv]
  refine dn_top ?_
  show jX13_clear w x b 0 0 0 _ [] (dnB _ dnP)
  unfold fX13_clear
  refine dn_aload_n (pc := 0) r0 0 dX13_clear_0 rfl ?_
  refine dn_getI (pc := 1) r0 lRX13_466 dX13_clear_1 (fun v1 => ?_)
  refine dn_istore_n (pc := 4) dX13_clear_4 (Nat.le_of_ble_eq_true rfl) (dnKp_nb 0 rfl (dn_cat b _) rfl (dnKp_of (lv2 := []) [] rfl rfl)) ?_
  refine dn_aload_n (pc := 5) r0 1 dX13_clear_5 rfl ?_
  refine dn_iconst (pc := 6) (v := 0) dX13_clear_6 rfl ?_
  refine dn_putI (pc := 7) r0 lRX13_466 dX13_clear_7 ?_
  refine dn_iload_n (pc := 10) 0 dX13_clear_10 rfl ?_
  exact dn_ret (Nat.le_of_ble_eq_true rfl) (Nat.le_of_ble_eq_true rfl) rfl dX13_clear_11
abbrev rmX13_leastKind : Room := { frames := 2, cells := 0, slots := 0, locals := 43 }
def fX13_leastKind_b2 (c0 : Int32) (s2 : Int32) : dnM ((Int32) ⊕ ((Unit) ⊕ Int32)) :=
  if 11 < s2 then
  (dnP (.inr (.inl ())))
  else
  (if ¬ c0 = (1 <<< (s2 &&& 31)) then
  (dnP (.inl (s2 + 1)))
  else
  (dnP (.inr (.inr s2))))
def fX13_leastKind_j77 (l0 : Int32) (l1 : Int32) (l3 : Int32) (s0 : Bool) : dnM ((Bool × Int32) ⊕ (Bool)) :=
  dnP (.inl (s0, (l3 + 1)))
def fX13_leastKind_j76 (l0 : Int32) (l1 : Int32) (l3 : Int32) : dnM ((Bool × Int32) ⊕ (Bool)) :=
  fX13_leastKind_j77 l0 l1 l3 false
def fX13_leastKind_j72 (l0 : Int32) (l1 : Int32) (l3 : Int32) : dnM ((Bool × Int32) ⊕ (Bool)) :=
  fX13_leastKind_j77 l0 l1 l3 true
def fX13_leastKind_b46 (c0 : Int32) (c1 : Int32) (s46 : Bool × Int32) : dnM ((Bool × Int32) ⊕ (Bool)) :=
  if 8 ≤ s46.2 then
  (dnP (.inr s46.1))
  else
  (if s46.1 = true then
  (if ((c0 >>> (s46.2 &&& 31)) &&& 1) = 0 then
  (fX13_leastKind_j72 c0 c1 s46.2)
  else
  (dnB (fX13_takes c1 s46.2) fun v1 =>
  if v1 = true then
  (fX13_leastKind_j72 c0 c1 s46.2)
  else
  (fX13_leastKind_j76 c0 c1 s46.2)))
  else
  (fX13_leastKind_j76 c0 c1 s46.2))
def fX13_leastKind_b25 (c0 : Int32) (s25 : Int32) : dnM ((Int32) ⊕ ((Unit) ⊕ Int32)) :=
  if 8 ≤ s25 then
  (dnP (.inr (.inl ())))
  else
  (if c0 ≤ 0 then
  (dnP (.inr (.inl ())))
  else
  (if 256 ≤ c0 then
  (dnP (.inr (.inl ())))
  else
  (dnB (dnIt 1000 (fX13_leastKind_b46 c0 s25) (true, 0)) fun q46 =>
  if q46 = true then
  (dnP (.inr (.inr s25)))
  else
  (dnP (.inl (s25 + 1))))))
def fX13_leastKind (p0 : Int32) : dnM Int32 :=
  dnB (dnIt 1000 (fX13_leastKind_b2 p0) 0) fun q_ => q_.elim (fun q2 => dnB (dnIt 1000 (fX13_leastKind_b25 p0) 0) fun q_ => q_.elim (fun q25 => dnP 8) (fun v_ => dnP v_)) (fun v_ => dnP v_)
abbrev jX13_leastKind (w : dnWd) (x : dnX) (b : Nat) := dnD w x b (fun _ => True) cX13_leastKind RX13 4 rmX13_leastKind "leastKind" eI
set_option maxHeartbeats 4000000 in
set_option maxRecDepth 100000 in
theorem mX13_leastKind (w : dnWd) (x : dnX) (b : Nat) (p0 : Int32) : dnMt w x b yX13_leastKind cX13_leastKind 4 (some .int) rmX13_leastKind eI [.int p0] (fX13_leastKind p0) := by
  have hlv : lv_args 0 [.int p0] = [(0, .int p0)] := by rfl
  refine dn_mt (by decide +kernel) roI (by exact (Nat.le_of_ble_eq_true rfl)) ?_
  rw [hlv]
  refine dn_top ?_
  show jX13_leastKind w x b 0 0 0 _ [] (dnB _ dnP)
  unfold fX13_leastKind
  refine dn_iconst (pc := 0) (v := 0) dX13_leastKind_0 rfl ?_
  refine dn_istore_n (pc := 1) dX13_leastKind_1 (Nat.le_of_ble_eq_true rfl) (dnKp_nb 0 rfl rfl rfl (dnKp_of (lv2 := []) [] rfl rfl)) ?_
  refine dn_assoc ?_
  refine dn_lv [1, 0] (lv2 := (fun s => [(0, .int p0), (1, .int s)]) 0) rfl ?_
  refine dn_loopR (pc := 2) (body := fX13_leastKind_b2 p0) 23 (fun s => [(0, .int p0), (1, .int s)]) (fun q => [(0, .int p0)]) (fun s2 K2 E2 hK2 hE2 hR2 => ?_) (dn_rt (Nat.le_of_ble_eq_true rfl) (Nat.le_of_ble_eq_true rfl) (fun _ => rfl)) (fun q2 => ?_) 1000 0
  · unfold fX13_leastKind_b2
    refine dn_iload_n (pc := 2) 1 dX13_leastKind_2 rfl ?_
    refine dn_bipush (pc := 3) (v := 11) dX13_leastKind_3 rfl ?_
    refine dn_icmp_gt (pc := 5) 23 dX13_leastKind_5 rfl (fun _ => ?_) (fun _ => ?_)
    · refine dn_leaf ?_
      exact dn_lv [0] rfl (hE2 ())
    · refine dn_iload_n (pc := 8) 0 dX13_leastKind_8 rfl ?_
      refine dn_iconst (pc := 9) (v := 1) dX13_leastKind_9 rfl ?_
      refine dn_iload_n (pc := 10) 1 dX13_leastKind_10 rfl ?_
      refine dn_ishl (pc := 11) dX13_leastKind_11 ?_
      refine dn_icmp_ne (pc := 12) 17 dX13_leastKind_12 rfl (fun _ => ?_) (fun _ => ?_)
      · refine dn_iinc (pc := 17) (s2 + 1) 1 dX13_leastKind_17 rfl rfl (Nat.le_of_ble_eq_true rfl) (dnKp_nb 0 rfl rfl rfl (dnKp_of (lv2 := []) [] rfl rfl)) ?_
        refine dn_goto (pc := 20) 2 dX13_leastKind_20 rfl ?_
        refine dn_leaf ?_
        exact dn_lv [1, 0] rfl (hK2 (s2 + 1))
      · refine dn_iload_n (pc := 15) 1 dX13_leastKind_15 rfl ?_
        refine dn_leaf ?_
        exact hR2 s2 _ _ _ rfl dX13_leastKind_16
  · dsimp only [Sum.elim_inl]
    refine dn_iconst (pc := 23) (v := 0) dX13_leastKind_23 rfl ?_
    refine dn_istore_n (pc := 24) dX13_leastKind_24 (Nat.le_of_ble_eq_true rfl) (dnKp_nb 0 rfl rfl rfl (dnKp_of (lv2 := []) [] rfl rfl)) ?_
    refine dn_assoc ?_
    refine dn_lv [1, 0] (lv2 := (fun s => [(0, .int p0), (1, .int s)]) 0) rfl ?_
    refine dn_loopR (pc := 25) (body := fX13_leastKind_b25 p0) 96 (fun s => [(0, .int p0), (1, .int s)]) (fun q => []) (fun s25 K25 E25 hK25 hE25 hR25 => ?_) (dn_rt (Nat.le_of_ble_eq_true rfl) (Nat.le_of_ble_eq_true rfl) (fun _ => rfl)) (fun q25 => ?_) 1000 0
    · unfold fX13_leastKind_b25
      refine dn_iload_n (pc := 25) 1 dX13_leastKind_25 rfl ?_
      refine dn_bipush (pc := 26) (v := 8) dX13_leastKind_26 rfl ?_
      refine dn_icmp_ge (pc := 28) 96 dX13_leastKind_28 rfl (fun _ => ?_) (fun _ => ?_)
      · refine dn_leaf ?_
        exact dn_lv [] rfl (hE25 ())
      · refine dn_iload_n (pc := 31) 0 dX13_leastKind_31 rfl ?_
        refine dn_if_le (pc := 32) 96 dX13_leastKind_32 rfl (fun _ => ?_) (fun _ => ?_)
        · refine dn_leaf ?_
          exact dn_lv [] rfl (hE25 ())
        · refine dn_iload_n (pc := 35) 0 dX13_leastKind_35 rfl ?_
          refine dn_sipush (pc := 36) (v := 256) dX13_leastKind_36 rfl ?_
          refine dn_icmp_ge (pc := 39) 96 dX13_leastKind_39 rfl (fun _ => ?_) (fun _ => ?_)
          · refine dn_leaf ?_
            exact dn_lv [] rfl (hE25 ())
          · refine dn_iconst (pc := 42) (v := 1) dX13_leastKind_42 rfl ?_
            refine dn_istore_n (pc := 43) dX13_leastKind_43 (Nat.le_of_ble_eq_true rfl) (dnKp_nb 1 rfl rfl rfl (dnKp_of (lv2 := [(0, .int p0)]) [0] rfl rfl)) ?_
            refine dn_iconst (pc := 44) (v := 0) dX13_leastKind_44 rfl ?_
            refine dn_istore_n (pc := 45) dX13_leastKind_45 (Nat.le_of_ble_eq_true rfl) (dnKp_nb 0 rfl rfl rfl (dnKp_of (lv2 := [(1, .int s25), (0, .int p0)]) [1, 2] rfl rfl)) ?_
            refine dn_assoc ?_
            refine dn_lv [3, 2, 1, 0] (lv2 := (fun s => [(0, .int p0), (1, .int s25), (2, .int (dnZ s.1)), (3, .int s.2)]) (true, 0)) rfl ?_
            refine dn_loopE (pc := 46) (body := fX13_leastKind_b46 p0 s25) 84 (fun s => [(0, .int p0), (1, .int s25), (2, .int (dnZ s.1)), (3, .int s.2)]) (fun q => [(0, .int p0), (1, .int s25), (2, .int (dnZ q))]) (fun s46 K46 E46 hK46 hE46 => ?_) (fun q46 => ?_) 1000 (true, 0)
            · unfold fX13_leastKind_b46
              have hj77 : ∀ (l3 : Int32) (s0 : Bool), jX13_leastKind w x b 77 0 0 [(0, .int p0), (1, .int s25), (3, .int l3)] [.int (dnZ s0)] (dnB (fX13_leastKind_j77 p0 s25 l3 s0) (dnKo K46 E46)) := by
                intro l3 s0
                unfold fX13_leastKind_j77
                refine dn_istore_n (pc := 77) dX13_leastKind_77 (Nat.le_of_ble_eq_true rfl) (dnKp_nb 1 rfl rfl rfl (dnKp_of (lv2 := [(0, .int p0), (3, .int l3)]) [0, 2] rfl rfl)) ?_
                refine dn_iinc (pc := 78) (l3 + 1) 3 dX13_leastKind_78 rfl rfl (Nat.le_of_ble_eq_true rfl) (dnKp_nb 0 rfl rfl rfl (dnKp_of (lv2 := [(1, .int s25), (0, .int p0)]) [1, 2] rfl rfl)) ?_
                refine dn_goto (pc := 81) 46 dX13_leastKind_81 rfl ?_
                refine dn_leaf ?_
                exact dn_lv [3, 2, 1, 0] rfl (hK46 (s0, (l3 + 1)))
              have hj76 : ∀ (l3 : Int32), jX13_leastKind w x b 76 0 0 [(0, .int p0), (1, .int s25), (3, .int l3)] [] (dnB (fX13_leastKind_j76 p0 s25 l3) (dnKo K46 E46)) := by
                intro l3
                unfold fX13_leastKind_j76
                refine dn_iconst (pc := 76) (v := 0) dX13_leastKind_76 rfl ?_
                exact dn_lv [0, 1, 2] rfl (hj77 l3 false)
              have hj72 : ∀ (l3 : Int32), jX13_leastKind w x b 72 0 0 [(0, .int p0), (1, .int s25), (3, .int l3)] [] (dnB (fX13_leastKind_j72 p0 s25 l3) (dnKo K46 E46)) := by
                intro l3
                unfold fX13_leastKind_j72
                refine dn_iconst (pc := 72) (v := 1) dX13_leastKind_72 rfl ?_
                refine dn_goto (pc := 73) 77 dX13_leastKind_73 rfl ?_
                exact dn_lv [0, 1, 2] rfl (hj77 l3 true)
              refine dn_iload_n (pc := 46) 3 dX13_leastKind_46 rfl ?_
              refine dn_bipush (pc := 47) (v := 8) dX13_leastKind_47 rfl ?_
              refine dn_icmp_ge (pc := 49) 84 dX13_leastKind_49 rfl (fun _ => ?_) (fun _ => ?_)
              · refine dn_leaf ?_
                exact dn_lv [0, 1, 2] rfl (hE46 s46.1)
              · refine dn_iload_n (pc := 52) 2 dX13_leastKind_52 rfl ?_
                refine dn_ifz_eq (pc := 53) 76 dX13_leastKind_53 rfl (fun _ => ?_) (fun _ => ?_)
                · refine dn_iload_n (pc := 56) 0 dX13_leastKind_56 rfl ?_
                  refine dn_iload_n (pc := 57) 3 dX13_leastKind_57 rfl ?_
                  refine dn_ishr (pc := 58) dX13_leastKind_58 ?_
                  refine dn_iconst (pc := 59) (v := 1) dX13_leastKind_59 rfl ?_
                  refine dn_iand (pc := 60) dX13_leastKind_60 ?_
                  refine dn_if_eq (pc := 61) 72 dX13_leastKind_61 rfl (fun _ => ?_) (fun _ => ?_)
                  · exact dn_lv [0, 1, 3] rfl (hj72 s46.2)
                  · refine dn_iload_n (pc := 64) 1 dX13_leastKind_64 rfl ?_
                    refine dn_iload_n (pc := 65) 3 dX13_leastKind_65 rfl ?_
                    refine dn_callS0Z (pc := 66) [.int s25, .int s46.2]  kRX13_205 (mX13_takes w x b s25 s46.2) rfl rfl (Nat.le_of_ble_eq_true rfl) ⟨(Nat.le_of_ble_eq_true rfl), (Nat.le_of_ble_eq_true rfl)⟩ ⟨rfl, rfl, (Nat.le_of_ble_eq_true rfl), (Nat.le_of_ble_eq_true rfl)⟩ dX13_leastKind_66 (fun v1 => ?_)
                    refine dn_ifz_eq (pc := 69) 76 dX13_leastKind_69 rfl (fun _ => ?_) (fun _ => ?_)
                    · exact dn_lv [0, 1, 3] rfl (hj72 s46.2)
                    · exact dn_lv [0, 1, 3] rfl (hj76 s46.2)
                · exact dn_lv [0, 1, 3] rfl (hj76 s46.2)
            · refine dn_iload_n (pc := 84) 2 dX13_leastKind_84 rfl ?_
              refine dn_ifz_eq (pc := 85) 90 dX13_leastKind_85 rfl (fun _ => ?_) (fun _ => ?_)
              · refine dn_iload_n (pc := 88) 1 dX13_leastKind_88 rfl ?_
                refine dn_leaf ?_
                exact hR25 s25 _ _ _ rfl dX13_leastKind_89
              · refine dn_iinc (pc := 90) (s25 + 1) 1 dX13_leastKind_90 rfl rfl (Nat.le_of_ble_eq_true rfl) (dnKp_nb 0 rfl rfl rfl (dnKp_of (lv2 := []) [] rfl rfl)) ?_
                refine dn_goto (pc := 93) 25 dX13_leastKind_93 rfl ?_
                refine dn_leaf ?_
                exact dn_lv [1, 0] rfl (hK25 (s25 + 1))
    · dsimp only [Sum.elim_inl]
      refine dn_bipush (pc := 96) (v := 8) dX13_leastKind_96 rfl ?_
      exact dn_ret (Nat.le_of_ble_eq_true rfl) (Nat.le_of_ble_eq_true rfl) rfl dX13_leastKind_98
abbrev rmX13_columnRow : Room := { frames := 4, cells := 0, slots := 0, locals := 89 }
def fX13_columnRow_j69 (l0 : Option Nat) (l1 : Int32) (l2 : Int32) (l3 : Int32) (l5 : Int32) (s0 : Int32) (s1 : Int32) : dnM ((Int32 × Int32 × Int32) ⊕ (Int32 × Int32)) :=
  dnP (.inl (l3, (s0 ||| s1), (l5 + 1)))
def fX13_columnRow_j36 (l0 : Option Nat) (l1 : Int32) (l2 : Int32) (l4 : Int32) (l5 : Int32) (s0 : Int32) (s1 : Bool) : dnM ((Int32 × Int32 × Int32) ⊕ (Int32 × Int32)) :=
  dnB (dnCv l0 11 (fX13_hasCell l0 l1 l5 l2)) fun v1 =>
  if v1 = true then
  (dnB (dnGR l0 11 6) fun v2 =>
  dnB (dnCv l0 11 (fX13_held l0 l1 l5)) fun v3 =>
  dnB (dnAI v2 100 v3) fun v4 =>
  fX13_columnRow_j69 l0 l1 l2 (s0 + (dnZ s1)) l5 l4 (1 <<< (v4 &&& 31)))
  else
  (fX13_columnRow_j69 l0 l1 l2 (s0 + (dnZ s1)) l5 l4 0)
def fX13_columnRow_b8 (c0 : Option Nat) (c1 : Int32) (c2 : Int32) (s8 : Int32 × Int32 × Int32) : dnM ((Int32 × Int32 × Int32) ⊕ (Int32 × Int32)) :=
  dnB (dnGR c0 11 4) fun v5 =>
  dnB (dnAI v5 100 c1) fun v6 =>
  if v6 ≤ s8.2.2 then
  (dnP (.inr (s8.1, s8.2.1)))
  else
  (dnB (dnCv c0 11 (fX13_hasCell c0 c1 s8.2.2 c2)) fun v7 =>
  if v7 = true then
  (fX13_columnRow_j36 c0 c1 c2 s8.2.1 s8.2.2 s8.1 true)
  else
  (fX13_columnRow_j36 c0 c1 c2 s8.2.1 s8.2.2 s8.1 false))
def fX13_columnRow_j137 (l0 : Option Nat) (l1 : Int32) (l2 : Int32) (l5 : Int32) (l6 : Int32) (l7 : Int32) : dnM ((Int32 × Int32) ⊕ (Unit)) :=
  dnP (.inl (l6, (l7 + 1)))
def fX13_columnRow_b96 (c0 : Option Nat) (c1 : Int32) (c2 : Int32) (c5 : Int32) (s96 : Int32 × Int32) : dnM ((Int32 × Int32) ⊕ (Unit)) :=
  dnB (dnGR c0 11 4) fun v10 =>
  dnB (dnAI v10 100 c1) fun v11 =>
  if v11 ≤ s96.2 then
  (dnP (.inr ()))
  else
  (dnB (dnCv c0 11 (fX13_hasCell c0 c1 s96.2 c2)) fun v12 =>
  if v12 = true then
  (dnB (dnCv c0 11 (fX13_held c0 c1 s96.2)) fun v13 =>
  dnB (dnCv c0 11 (fX13_copies c0 v13 c2 c5 s96.1)) fun _ =>
  fX13_columnRow_j137 c0 c1 c2 c5 (s96.1 + 1) s96.2)
  else
  (fX13_columnRow_j137 c0 c1 c2 c5 s96.1 s96.2))
def fX13_columnRow (r0 : Option Nat) (p1 : Int32) (p2 : Int32) : dnM Int32 :=
  dnB (dnIt 1000 (fX13_columnRow_b8 r0 p1 p2) (0, 0, 0)) fun q8 =>
  dnB (fX13_leastKind q8.2) fun v8 =>
  dnB (dnCv r0 11 (fX13_newRow r0 v8 q8.1)) fun v9 =>
  dnB (dnIt 1000 (fX13_columnRow_b96 r0 p1 p2 v9) (0, 0)) fun q96 =>
  dnP v9
abbrev jX13_columnRow (w : dnWd) (x : dnX) (b : Nat) := dnD w x b (fun _ => True) cX13_columnRow RX13 8 rmX13_columnRow "columnRow" eI
set_option maxHeartbeats 4000000 in
set_option maxRecDepth 100000 in
theorem mX13_columnRow (w : dnWd) (x : dnX) (b : Nat) (r0 : Option Nat) (p1 : Int32) (p2 : Int32) : dnMt w x b yX13_columnRow cX13_columnRow 8 (some .int) rmX13_columnRow eI [dnV b r0, .int p1, .int p2] (fX13_columnRow r0 p1 p2) := by
  have hlv : lv_args 0 [dnV b r0, .int p1, .int p2] = [(0, dnV b r0), (1, .int p1), (2, .int p2)] := by cases r0 <;> rfl
  refine dn_mt (by decide +kernel) roI (by cases r0 <;> exact (Nat.le_of_ble_eq_true rfl)) ?_
  rw [hlv]
  refine dn_top ?_
  show jX13_columnRow w x b 0 0 0 _ [] (dnB _ dnP)
  unfold fX13_columnRow
  refine dn_iconst (pc := 0) (v := 0) dX13_columnRow_0 rfl ?_
  refine dn_istore_n (pc := 1) dX13_columnRow_1 (Nat.le_of_ble_eq_true rfl) (dnKp_nb 2 rfl rfl rfl (dnKp_of (lv2 := [(0, dnV b r0), (1, .int p1)]) [0, 1] rfl rfl)) ?_
  refine dn_iconst (pc := 2) (v := 0) dX13_columnRow_2 rfl ?_
  refine dn_istore (pc := 3) dX13_columnRow_3 (Nat.le_of_ble_eq_true rfl) (dnKp_nb 0 rfl rfl rfl (dnKp_of (lv2 := [(2, .int p2), (0, dnV b r0), (1, .int p1)]) [1, 2, 3] rfl rfl)) ?_
  refine dn_iconst (pc := 5) (v := 0) dX13_columnRow_5 rfl ?_
  refine dn_istore (pc := 6) dX13_columnRow_6 (Nat.le_of_ble_eq_true rfl) (dnKp_nb 0 rfl rfl rfl (dnKp_of (lv2 := [(3, .int 0), (2, .int p2), (0, dnV b r0), (1, .int p1)]) [1, 2, 3, 4] rfl rfl)) ?_
  refine dn_assoc ?_
  refine dn_lv [4, 5, 3, 2, 1, 0] (lv2 := (fun s => [(0, dnV b r0), (1, .int p1), (2, .int p2), (3, .int s.1), (4, .int s.2.1), (5, .int s.2.2)]) (0, 0, 0)) rfl ?_
  refine dn_loopE (pc := 8) (body := fX13_columnRow_b8 r0 p1 p2) 78 (fun s => [(0, dnV b r0), (1, .int p1), (2, .int p2), (3, .int s.1), (4, .int s.2.1), (5, .int s.2.2)]) (fun q => [(0, dnV b r0), (1, .int p1), (2, .int p2), (3, .int q.1), (4, .int q.2)]) (fun s8 K8 E8 hK8 hE8 => ?_) (fun q8 => ?_) 1000 (0, 0, 0)
  · unfold fX13_columnRow_b8
    have hj69 : ∀ (l3 : Int32) (l5 : Int32) (s0 : Int32) (s1 : Int32), jX13_columnRow w x b 69 0 0 [(0, dnV b r0), (1, .int p1), (2, .int p2), (3, .int l3), (5, .int l5)] [.int s1, .int s0] (dnB (fX13_columnRow_j69 r0 p1 p2 l3 l5 s0 s1) (dnKo K8 E8)) := by
      intro l3 l5 s0 s1
      unfold fX13_columnRow_j69
      refine dn_ior (pc := 69) dX13_columnRow_69 ?_
      refine dn_istore (pc := 70) dX13_columnRow_70 (Nat.le_of_ble_eq_true rfl) (dnKp_nb 3 rfl rfl rfl (dnKp_of (lv2 := [(0, dnV b r0), (1, .int p1), (2, .int p2), (5, .int l5)]) [0, 1, 2, 4] rfl rfl)) ?_
      refine dn_iinc (pc := 72) (l5 + 1) 5 dX13_columnRow_72 rfl rfl (Nat.le_of_ble_eq_true rfl) (dnKp_nb 0 rfl rfl rfl (dnKp_of (lv2 := [(3, .int l3), (0, dnV b r0), (1, .int p1), (2, .int p2)]) [1, 2, 3, 4] rfl rfl)) ?_
      refine dn_goto (pc := 75) 8 dX13_columnRow_75 rfl ?_
      refine dn_leaf ?_
      exact dn_lv [3, 4, 5, 2, 1, 0] rfl (hK8 (l3, (s0 ||| s1), (l5 + 1)))
    have hj36 : ∀ (l4 : Int32) (l5 : Int32) (s0 : Int32) (s1 : Bool), jX13_columnRow w x b 36 0 0 [(0, dnV b r0), (1, .int p1), (2, .int p2), (4, .int l4), (5, .int l5)] [.int (dnZ s1), .int s0] (dnB (fX13_columnRow_j36 r0 p1 p2 l4 l5 s0 s1) (dnKo K8 E8)) := by
      intro l4 l5 s0 s1
      unfold fX13_columnRow_j36
      refine dn_iadd (pc := 36) dX13_columnRow_36 ?_
      refine dn_istore_n (pc := 37) dX13_columnRow_37 (Nat.le_of_ble_eq_true rfl) (dnKp_nb 2 rfl rfl rfl (dnKp_of (lv2 := [(0, dnV b r0), (1, .int p1), (4, .int l4), (5, .int l5)]) [0, 1, 3, 4] rfl rfl)) ?_
      refine dn_iload (pc := 38) 4 dX13_columnRow_38 rfl ?_
      refine dn_aload_n (pc := 40) r0 2 dX13_columnRow_40 rfl ?_
      refine dn_iload_n (pc := 41) 3 dX13_columnRow_41 rfl ?_
      refine dn_iload (pc := 42) 5 dX13_columnRow_42 rfl ?_
      refine dn_iload_n (pc := 44) 1 dX13_columnRow_44 rfl ?_
      refine dn_callV0Z (pc := 45) [.int p1, .int l5, .int p2] r0 kRX13_348 (mX13_hasCell w x b r0 p1 l5 p2) rfl rfl (Nat.le_of_ble_eq_true rfl) ⟨(Nat.le_of_ble_eq_true rfl), (Nat.le_of_ble_eq_true rfl)⟩ ⟨rfl, rfl, (Nat.le_of_ble_eq_true rfl), (Nat.le_of_ble_eq_true rfl)⟩ dX13_columnRow_45 (fun v1 => ?_)
      refine dn_ifz_eq (pc := 48) 68 dX13_columnRow_48 rfl (fun _ => ?_) (fun _ => ?_)
      · refine dn_iconst (pc := 51) (v := 1) dX13_columnRow_51 rfl ?_
        refine dn_aload_n (pc := 52) r0 2 dX13_columnRow_52 rfl ?_
        refine dn_getR (pc := 53) r0 lRX13_23 dX13_columnRow_53 (fun v2 => ?_)
        refine dn_aload_n (pc := 56) r0 2 dX13_columnRow_56 rfl ?_
        refine dn_iload_n (pc := 57) 3 dX13_columnRow_57 rfl ?_
        refine dn_iload (pc := 58) 5 dX13_columnRow_58 rfl ?_
        refine dn_callV0I (pc := 60) [.int p1, .int l5] r0 kRX13_128 (mX13_held w x b r0 p1 l5) rfl rfl (Nat.le_of_ble_eq_true rfl) ⟨(Nat.le_of_ble_eq_true rfl), (Nat.le_of_ble_eq_true rfl)⟩ ⟨rfl, rfl, (Nat.le_of_ble_eq_true rfl), (Nat.le_of_ble_eq_true rfl)⟩ dX13_columnRow_60 (fun v3 => ?_)
        refine dn_iald (pc := 63) v2 dX13_columnRow_63 (fun v4 => ?_)
        refine dn_ishl (pc := 64) dX13_columnRow_64 ?_
        refine dn_goto (pc := 65) 69 dX13_columnRow_65 rfl ?_
        exact dn_lv [2, 3, 1, 0, 5] rfl (hj69 (s0 + (dnZ s1)) l5 l4 (1 <<< (v4 &&& 31)))
      · refine dn_iconst (pc := 68) (v := 0) dX13_columnRow_68 rfl ?_
        exact dn_lv [2, 3, 1, 0, 5] rfl (hj69 (s0 + (dnZ s1)) l5 l4 0)
    refine dn_iload (pc := 8) 5 dX13_columnRow_8 rfl ?_
    refine dn_aload_n (pc := 10) r0 0 dX13_columnRow_10 rfl ?_
    refine dn_getR (pc := 11) r0 lRX13_17 dX13_columnRow_11 (fun v5 => ?_)
    refine dn_iload_n (pc := 14) 1 dX13_columnRow_14 rfl ?_
    refine dn_iald (pc := 15) v5 dX13_columnRow_15 (fun v6 => ?_)
    refine dn_icmp_ge (pc := 16) 78 dX13_columnRow_16 rfl (fun _ => ?_) (fun _ => ?_)
    · refine dn_leaf ?_
      exact dn_lv [0, 1, 2, 3, 4] rfl (hE8 (s8.1, s8.2.1))
    · refine dn_iload_n (pc := 19) 3 dX13_columnRow_19 rfl ?_
      refine dn_aload_n (pc := 20) r0 0 dX13_columnRow_20 rfl ?_
      refine dn_iload_n (pc := 21) 1 dX13_columnRow_21 rfl ?_
      refine dn_iload (pc := 22) 5 dX13_columnRow_22 rfl ?_
      refine dn_iload_n (pc := 24) 2 dX13_columnRow_24 rfl ?_
      refine dn_callV0Z (pc := 25) [.int p1, .int s8.2.2, .int p2] r0 kRX13_348 (mX13_hasCell w x b r0 p1 s8.2.2 p2) rfl rfl (Nat.le_of_ble_eq_true rfl) ⟨(Nat.le_of_ble_eq_true rfl), (Nat.le_of_ble_eq_true rfl)⟩ ⟨rfl, rfl, (Nat.le_of_ble_eq_true rfl), (Nat.le_of_ble_eq_true rfl)⟩ dX13_columnRow_25 (fun v7 => ?_)
      refine dn_ifz_eq (pc := 28) 35 dX13_columnRow_28 rfl (fun _ => ?_) (fun _ => ?_)
      · refine dn_iconst (pc := 31) (v := 1) dX13_columnRow_31 rfl ?_
        refine dn_goto (pc := 32) 36 dX13_columnRow_32 rfl ?_
        exact dn_lv [0, 1, 2, 4, 5] rfl (hj36 s8.2.1 s8.2.2 s8.1 true)
      · refine dn_iconst (pc := 35) (v := 0) dX13_columnRow_35 rfl ?_
        exact dn_lv [0, 1, 2, 4, 5] rfl (hj36 s8.2.1 s8.2.2 s8.1 false)
  · refine dn_aload_n (pc := 78) r0 0 dX13_columnRow_78 rfl ?_
    refine dn_iload (pc := 79) 4 dX13_columnRow_79 rfl ?_
    refine dn_callS0I (pc := 81) [.int q8.2]  kRX13_294 (mX13_leastKind w x b q8.2) rfl rfl (Nat.le_of_ble_eq_true rfl) ⟨(Nat.le_of_ble_eq_true rfl), (Nat.le_of_ble_eq_true rfl)⟩ ⟨rfl, rfl, (Nat.le_of_ble_eq_true rfl), (Nat.le_of_ble_eq_true rfl)⟩ dX13_columnRow_81 (fun v8 => ?_)
    refine dn_iload_n (pc := 84) 3 dX13_columnRow_84 rfl ?_
    refine dn_callV0I (pc := 85) [.int v8, .int q8.1] r0 kRX13_155 (mX13_newRow w x b r0 v8 q8.1) rfl rfl (Nat.le_of_ble_eq_true rfl) ⟨(Nat.le_of_ble_eq_true rfl), (Nat.le_of_ble_eq_true rfl)⟩ ⟨rfl, rfl, (Nat.le_of_ble_eq_true rfl), (Nat.le_of_ble_eq_true rfl)⟩ dX13_columnRow_85 (fun v9 => ?_)
    refine dn_istore (pc := 88) dX13_columnRow_88 (Nat.le_of_ble_eq_true rfl) (dnKp_of (lv2 := [(0, dnV b r0), (1, .int p1), (2, .int p2)]) [0, 1, 2] rfl rfl) ?_
    refine dn_iconst (pc := 90) (v := 0) dX13_columnRow_90 rfl ?_
    refine dn_istore (pc := 91) dX13_columnRow_91 (Nat.le_of_ble_eq_true rfl) (dnKp_nb 0 rfl rfl rfl (dnKp_of (lv2 := [(0, dnV b r0), (1, .int p1), (2, .int p2)]) [1, 2, 3] rfl rfl)) ?_
    refine dn_iconst (pc := 93) (v := 0) dX13_columnRow_93 rfl ?_
    refine dn_istore (pc := 94) dX13_columnRow_94 (Nat.le_of_ble_eq_true rfl) (dnKp_nb 0 rfl rfl rfl (dnKp_of (lv2 := [(5, .int v9), (0, dnV b r0), (1, .int p1), (2, .int p2)]) [1, 2, 3, 4] rfl rfl)) ?_
    refine dn_assoc ?_
    refine dn_lv [3, 4, 5, 2, 1, 0] (lv2 := (fun s => [(0, dnV b r0), (1, .int p1), (2, .int p2), (5, .int v9), (6, .int s.1), (7, .int s.2)]) (0, 0)) rfl ?_
    refine dn_loopE (pc := 96) (body := fX13_columnRow_b96 r0 p1 p2 v9) 143 (fun s => [(0, dnV b r0), (1, .int p1), (2, .int p2), (5, .int v9), (6, .int s.1), (7, .int s.2)]) (fun q => [(5, .int v9)]) (fun s96 K96 E96 hK96 hE96 => ?_) (fun q96 => ?_) 1000 (0, 0)
    · unfold fX13_columnRow_b96
      have hj137 : ∀ (l6 : Int32) (l7 : Int32), jX13_columnRow w x b 137 0 0 [(0, dnV b r0), (1, .int p1), (2, .int p2), (5, .int v9), (6, .int l6), (7, .int l7)] [] (dnB (fX13_columnRow_j137 r0 p1 p2 v9 l6 l7) (dnKo K96 E96)) := by
        intro l6 l7
        unfold fX13_columnRow_j137
        refine dn_iinc (pc := 137) (l7 + 1) 5 dX13_columnRow_137 rfl rfl (Nat.le_of_ble_eq_true rfl) (dnKp_nb 4 rfl rfl rfl (dnKp_of (lv2 := [(0, dnV b r0), (1, .int p1), (2, .int p2), (5, .int v9)]) [0, 1, 2, 3] rfl rfl)) ?_
        refine dn_goto (pc := 140) 96 dX13_columnRow_140 rfl ?_
        refine dn_leaf ?_
        exact dn_lv [2, 3, 4, 5, 1, 0] rfl (hK96 (l6, (l7 + 1)))
      refine dn_iload (pc := 96) 5 dX13_columnRow_96 rfl ?_
      refine dn_aload_n (pc := 98) r0 0 dX13_columnRow_98 rfl ?_
      refine dn_getR (pc := 99) r0 lRX13_17 dX13_columnRow_99 (fun v10 => ?_)
      refine dn_iload_n (pc := 102) 1 dX13_columnRow_102 rfl ?_
      refine dn_iald (pc := 103) v10 dX13_columnRow_103 (fun v11 => ?_)
      refine dn_icmp_ge (pc := 104) 143 dX13_columnRow_104 rfl (fun _ => ?_) (fun _ => ?_)
      · refine dn_leaf ?_
        exact dn_lv [3] rfl (hE96 ())
      · refine dn_aload_n (pc := 107) r0 0 dX13_columnRow_107 rfl ?_
        refine dn_iload_n (pc := 108) 1 dX13_columnRow_108 rfl ?_
        refine dn_iload (pc := 109) 5 dX13_columnRow_109 rfl ?_
        refine dn_iload_n (pc := 111) 2 dX13_columnRow_111 rfl ?_
        refine dn_callV0Z (pc := 112) [.int p1, .int s96.2, .int p2] r0 kRX13_348 (mX13_hasCell w x b r0 p1 s96.2 p2) rfl rfl (Nat.le_of_ble_eq_true rfl) ⟨(Nat.le_of_ble_eq_true rfl), (Nat.le_of_ble_eq_true rfl)⟩ ⟨rfl, rfl, (Nat.le_of_ble_eq_true rfl), (Nat.le_of_ble_eq_true rfl)⟩ dX13_columnRow_112 (fun v12 => ?_)
        refine dn_ifz_eq (pc := 115) 137 dX13_columnRow_115 rfl (fun _ => ?_) (fun _ => ?_)
        · refine dn_aload_n (pc := 118) r0 0 dX13_columnRow_118 rfl ?_
          refine dn_aload_n (pc := 119) r0 0 dX13_columnRow_119 rfl ?_
          refine dn_iload_n (pc := 120) 1 dX13_columnRow_120 rfl ?_
          refine dn_iload (pc := 121) 5 dX13_columnRow_121 rfl ?_
          refine dn_callV0I (pc := 123) [.int p1, .int s96.2] r0 kRX13_128 (mX13_held w x b r0 p1 s96.2) rfl rfl (Nat.le_of_ble_eq_true rfl) ⟨(Nat.le_of_ble_eq_true rfl), (Nat.le_of_ble_eq_true rfl)⟩ ⟨rfl, rfl, (Nat.le_of_ble_eq_true rfl), (Nat.le_of_ble_eq_true rfl)⟩ dX13_columnRow_123 (fun v13 => ?_)
          refine dn_iload_n (pc := 126) 2 dX13_columnRow_126 rfl ?_
          refine dn_iload (pc := 127) 3 dX13_columnRow_127 rfl ?_
          refine dn_iload (pc := 129) 4 dX13_columnRow_129 rfl ?_
          refine dn_callV0U (pc := 131) [.int v13, .int p2, .int v9, .int s96.1] r0 kRX13_280 (mX13_copies w x b r0 v13 p2 v9 s96.1) rfl rfl (Nat.le_of_ble_eq_true rfl) ⟨(Nat.le_of_ble_eq_true rfl), (Nat.le_of_ble_eq_true rfl)⟩ ⟨rfl, rfl, (Nat.le_of_ble_eq_true rfl), (Nat.le_of_ble_eq_true rfl)⟩ dX13_columnRow_131 (fun _ => ?_)
          refine dn_iinc (pc := 134) (s96.1 + 1) 4 dX13_columnRow_134 rfl rfl (Nat.le_of_ble_eq_true rfl) (dnKp_nb 3 rfl rfl rfl (dnKp_of (lv2 := [(0, dnV b r0), (1, .int p1), (2, .int p2), (7, .int s96.2)]) [0, 1, 2, 5] rfl rfl)) ?_
          exact dn_lv [2, 3, 4, 1, 0, 5] rfl (hj137 (s96.1 + 1) s96.2)
        · exact dn_lv [0, 1, 2, 3, 4, 5] rfl (hj137 s96.1 s96.2)
    · refine dn_iload (pc := 143) 0 dX13_columnRow_143 rfl ?_
      exact dn_ret (Nat.le_of_ble_eq_true rfl) (Nat.le_of_ble_eq_true rfl) rfl dX13_columnRow_145
abbrev rmX13_comes : Room := { frames := 2, cells := 0, slots := 0, locals := 46 }
def fX13_comes_b8 (c0 : Option Nat) (c1 : Int32) (c2 : Int32) (s8 : Int32) : dnM ((Int32) ⊕ (Unit)) :=
  if c2 ≤ s8 then
  (dnP (.inr ()))
  else
  (dnB (dnGR c0 11 18) fun v2 =>
  dnB (dnAI v2 100 s8) fun v3 =>
  dnB (dnCv c0 11 (fX13_holdsNow c0 c1 s8 v3)) fun _ =>
  dnP (.inl (s8 + 1)))
def fX13_comes (r0 : Option Nat) (p1 : Int32) (p2 : Int32) : dnM Int32 :=
  dnB (dnCv r0 11 (fX13_anew r0 p1 p2)) fun _ =>
  dnB (dnIt 1000 (fX13_comes_b8 r0 p1 p2) 0) fun q8 =>
  dnP p2
abbrev jX13_comes (w : dnWd) (x : dnX) (b : Nat) := dnD w x b (fun _ => True) cX13_comes RX13 4 rmX13_comes "comes" eI
set_option maxHeartbeats 4000000 in
set_option maxRecDepth 100000 in
theorem mX13_comes (w : dnWd) (x : dnX) (b : Nat) (r0 : Option Nat) (p1 : Int32) (p2 : Int32) : dnMt w x b yX13_comes cX13_comes 4 (some .int) rmX13_comes eI [dnV b r0, .int p1, .int p2] (fX13_comes r0 p1 p2) := by
  have hlv : lv_args 0 [dnV b r0, .int p1, .int p2] = [(0, dnV b r0), (1, .int p1), (2, .int p2)] := by cases r0 <;> rfl
  refine dn_mt (by decide +kernel) roI (by cases r0 <;> exact (Nat.le_of_ble_eq_true rfl)) ?_
  rw [hlv]
  refine dn_top ?_
  show jX13_comes w x b 0 0 0 _ [] (dnB _ dnP)
  unfold fX13_comes
  refine dn_aload_n (pc := 0) r0 0 dX13_comes_0 rfl ?_
  refine dn_iload_n (pc := 1) 1 dX13_comes_1 rfl ?_
  refine dn_iload_n (pc := 2) 2 dX13_comes_2 rfl ?_
  refine dn_callV0U (pc := 3) [.int p1, .int p2] r0 kRX13_141 (mX13_anew w x b r0 p1 p2) rfl rfl (Nat.le_of_ble_eq_true rfl) ⟨(Nat.le_of_ble_eq_true rfl), (Nat.le_of_ble_eq_true rfl)⟩ ⟨rfl, rfl, (Nat.le_of_ble_eq_true rfl), (Nat.le_of_ble_eq_true rfl)⟩ dX13_comes_3 (fun _ => ?_)
  refine dn_iconst (pc := 6) (v := 0) dX13_comes_6 rfl ?_
  refine dn_istore_n (pc := 7) dX13_comes_7 (Nat.le_of_ble_eq_true rfl) (dnKp_nb 2 rfl rfl rfl (dnKp_of (lv2 := [(0, dnV b r0), (1, .int p1)]) [0, 1] rfl rfl)) ?_
  refine dn_assoc ?_
  refine dn_lv [2, 3, 1, 0] (lv2 := (fun s => [(0, dnV b r0), (1, .int p1), (2, .int p2), (3, .int s)]) 0) rfl ?_
  refine dn_loopE (pc := 8) (body := fX13_comes_b8 r0 p1 p2) 31 (fun s => [(0, dnV b r0), (1, .int p1), (2, .int p2), (3, .int s)]) (fun q => [(2, .int p2)]) (fun s8 K8 E8 hK8 hE8 => ?_) (fun q8 => ?_) 1000 0
  · unfold fX13_comes_b8
    refine dn_iload_n (pc := 8) 3 dX13_comes_8 rfl ?_
    refine dn_iload_n (pc := 9) 2 dX13_comes_9 rfl ?_
    refine dn_icmp_ge (pc := 10) 31 dX13_comes_10 rfl (fun _ => ?_) (fun _ => ?_)
    · refine dn_leaf ?_
      exact dn_lv [2] rfl (hE8 ())
    · refine dn_aload_n (pc := 13) r0 0 dX13_comes_13 rfl ?_
      refine dn_iload_n (pc := 14) 1 dX13_comes_14 rfl ?_
      refine dn_iload_n (pc := 15) 3 dX13_comes_15 rfl ?_
      refine dn_aload_n (pc := 16) r0 0 dX13_comes_16 rfl ?_
      refine dn_getR (pc := 17) r0 lRX13_52 dX13_comes_17 (fun v2 => ?_)
      refine dn_iload_n (pc := 20) 3 dX13_comes_20 rfl ?_
      refine dn_iald (pc := 21) v2 dX13_comes_21 (fun v3 => ?_)
      refine dn_callV0U (pc := 22) [.int p1, .int s8, .int v3] r0 kRX13_145 (mX13_holdsNow w x b r0 p1 s8 v3) rfl rfl (Nat.le_of_ble_eq_true rfl) ⟨(Nat.le_of_ble_eq_true rfl), (Nat.le_of_ble_eq_true rfl)⟩ ⟨rfl, rfl, (Nat.le_of_ble_eq_true rfl), (Nat.le_of_ble_eq_true rfl)⟩ dX13_comes_22 (fun _ => ?_)
      refine dn_iinc (pc := 25) (s8 + 1) 3 dX13_comes_25 rfl rfl (Nat.le_of_ble_eq_true rfl) (dnKp_nb 2 rfl rfl rfl (dnKp_of (lv2 := [(0, dnV b r0), (1, .int p1)]) [0, 1] rfl rfl)) ?_
      refine dn_goto (pc := 28) 8 dX13_comes_28 rfl ?_
      refine dn_leaf ?_
      exact dn_lv [2, 3, 1, 0] rfl (hK8 (s8 + 1))
  · refine dn_iload_n (pc := 31) 0 dX13_comes_31 rfl ?_
    exact dn_ret (Nat.le_of_ble_eq_true rfl) (Nat.le_of_ble_eq_true rfl) rfl dX13_comes_32
abbrev rmX13_holder : Room := { frames := 0, cells := 0, slots := 0, locals := 0 }
def fX13_holder_b2 (c0 : Option Nat) (c1 : Int32) (s2 : Int32) : dnM ((Int32) ⊕ ((Unit) ⊕ Int32)) :=
  if 24 ≤ s2 then
  (dnP (.inr (.inl ())))
  else
  (dnB (dnGR c0 11 5) fun v1 =>
  dnB (dnAI v1 100 s2) fun v2 =>
  if ¬ v2 = c1 then
  (dnP (.inl (s2 + 1)))
  else
  (dnP (.inr (.inr s2))))
def fX13_holder (r0 : Option Nat) (p1 : Int32) : dnM Int32 :=
  dnB (dnIt 1000 (fX13_holder_b2 r0 p1) 0) fun q_ => q_.elim (fun q2 => dnP (-9)) (fun v_ => dnP v_)
abbrev jX13_holder (w : dnWd) (x : dnX) (b : Nat) := dnD w x b (fun _ => True) cX13_holder RX13 3 rmX13_holder "holder" eI
set_option maxHeartbeats 4000000 in
set_option maxRecDepth 100000 in
theorem mX13_holder (w : dnWd) (x : dnX) (b : Nat) (r0 : Option Nat) (p1 : Int32) : dnMt w x b yX13_holder cX13_holder 3 (some .int) rmX13_holder eI [dnV b r0, .int p1] (fX13_holder r0 p1) := by
  have hlv : lv_args 0 [dnV b r0, .int p1] = [(0, dnV b r0), (1, .int p1)] := by cases r0 <;> rfl
  refine dn_mt (by decide +kernel) roI (by cases r0 <;> exact (Nat.le_of_ble_eq_true rfl)) ?_
  rw [hlv]
  refine dn_top ?_
  show jX13_holder w x b 0 0 0 _ [] (dnB _ dnP)
  unfold fX13_holder
  refine dn_iconst (pc := 0) (v := 0) dX13_holder_0 rfl ?_
  refine dn_istore_n (pc := 1) dX13_holder_1 (Nat.le_of_ble_eq_true rfl) (dnKp_nb 1 rfl rfl rfl (dnKp_of (lv2 := [(0, dnV b r0)]) [0] rfl rfl)) ?_
  refine dn_assoc ?_
  refine dn_lv [2, 1, 0] (lv2 := (fun s => [(0, dnV b r0), (1, .int p1), (2, .int s)]) 0) rfl ?_
  refine dn_loopR (pc := 2) (body := fX13_holder_b2 r0 p1) 26 (fun s => [(0, dnV b r0), (1, .int p1), (2, .int s)]) (fun q => []) (fun s2 K2 E2 hK2 hE2 hR2 => ?_) (dn_rt (Nat.le_of_ble_eq_true rfl) (Nat.le_of_ble_eq_true rfl) (fun _ => rfl)) (fun q2 => ?_) 1000 0
  · unfold fX13_holder_b2
    refine dn_iload_n (pc := 2) 2 dX13_holder_2 rfl ?_
    refine dn_bipush (pc := 3) (v := 24) dX13_holder_3 rfl ?_
    refine dn_icmp_ge (pc := 5) 26 dX13_holder_5 rfl (fun _ => ?_) (fun _ => ?_)
    · refine dn_leaf ?_
      exact dn_lv [] rfl (hE2 ())
    · refine dn_aload_n (pc := 8) r0 0 dX13_holder_8 rfl ?_
      refine dn_getR (pc := 9) r0 lRX13_20 dX13_holder_9 (fun v1 => ?_)
      refine dn_iload_n (pc := 12) 2 dX13_holder_12 rfl ?_
      refine dn_iald (pc := 13) v1 dX13_holder_13 (fun v2 => ?_)
      refine dn_iload_n (pc := 14) 1 dX13_holder_14 rfl ?_
      refine dn_icmp_ne (pc := 15) 20 dX13_holder_15 rfl (fun _ => ?_) (fun _ => ?_)
      · refine dn_iinc (pc := 20) (s2 + 1) 2 dX13_holder_20 rfl rfl (Nat.le_of_ble_eq_true rfl) (dnKp_nb 1 rfl rfl rfl (dnKp_of (lv2 := [(0, dnV b r0)]) [0] rfl rfl)) ?_
        refine dn_goto (pc := 23) 2 dX13_holder_23 rfl ?_
        refine dn_leaf ?_
        exact dn_lv [2, 1, 0] rfl (hK2 (s2 + 1))
      · refine dn_iload_n (pc := 18) 2 dX13_holder_18 rfl ?_
        refine dn_leaf ?_
        exact hR2 s2 _ _ _ rfl dX13_holder_19
  · dsimp only [Sum.elim_inl]
    refine dn_bipush (pc := 26) (v := -9) dX13_holder_26 rfl ?_
    exact dn_ret (Nat.le_of_ble_eq_true rfl) (Nat.le_of_ble_eq_true rfl) rfl dX13_holder_28
abbrev rmX13_nothings : Room := { frames := 0, cells := 0, slots := 0, locals := 0 }
def fX13_nothings_j36 (l0 : Option Nat) (l1 : Int32) (l3 : Int32) (s0 : Int32) (s1 : Bool) : dnM ((Int32 × Int32) ⊕ (Int32)) :=
  dnP (.inl ((s0 + (dnZ s1)), (l3 + 1)))
def fX13_nothings_b4 (c0 : Option Nat) (c1 : Int32) (s4 : Int32 × Int32) : dnM ((Int32 × Int32) ⊕ (Int32)) :=
  dnB (dnGR c0 11 7) fun v1 =>
  dnB (dnAI v1 100 c1) fun v2 =>
  if v2 ≤ s4.2 then
  (dnP (.inr s4.1))
  else
  (dnB (dnGR c0 11 9) fun v3 =>
  dnB (dnAI v3 100 ((12 * c1) + s4.2)) fun v4 =>
  if ¬ v4 = 11 then
  (fX13_nothings_j36 c0 c1 s4.2 s4.1 false)
  else
  (fX13_nothings_j36 c0 c1 s4.2 s4.1 true))
def fX13_nothings (r0 : Option Nat) (p1 : Int32) : dnM Int32 :=
  dnB (dnIt 1000 (fX13_nothings_b4 r0 p1) (0, 0)) fun q4 =>
  dnP q4
abbrev jX13_nothings (w : dnWd) (x : dnX) (b : Nat) := dnD w x b (fun _ => True) cX13_nothings RX13 4 rmX13_nothings "nothings" eI
set_option maxHeartbeats 4000000 in
set_option maxRecDepth 100000 in
theorem mX13_nothings (w : dnWd) (x : dnX) (b : Nat) (r0 : Option Nat) (p1 : Int32) : dnMt w x b yX13_nothings cX13_nothings 4 (some .int) rmX13_nothings eI [dnV b r0, .int p1] (fX13_nothings r0 p1) := by
  have hlv : lv_args 0 [dnV b r0, .int p1] = [(0, dnV b r0), (1, .int p1)] := by cases r0 <;> rfl
  refine dn_mt (by decide +kernel) roI (by cases r0 <;> exact (Nat.le_of_ble_eq_true rfl)) ?_
  rw [hlv]
  refine dn_top ?_
  show jX13_nothings w x b 0 0 0 _ [] (dnB _ dnP)
  unfold fX13_nothings
  refine dn_iconst (pc := 0) (v := 0) dX13_nothings_0 rfl ?_
  refine dn_istore_n (pc := 1) dX13_nothings_1 (Nat.le_of_ble_eq_true rfl) (dnKp_nb 1 rfl rfl rfl (dnKp_of (lv2 := [(0, dnV b r0)]) [0] rfl rfl)) ?_
  refine dn_iconst (pc := 2) (v := 0) dX13_nothings_2 rfl ?_
  refine dn_istore_n (pc := 3) dX13_nothings_3 (Nat.le_of_ble_eq_true rfl) (dnKp_nb 0 rfl rfl rfl (dnKp_of (lv2 := [(1, .int p1), (0, dnV b r0)]) [1, 2] rfl rfl)) ?_
  refine dn_assoc ?_
  refine dn_lv [3, 2, 1, 0] (lv2 := (fun s => [(0, dnV b r0), (1, .int p1), (2, .int s.1), (3, .int s.2)]) (0, 0)) rfl ?_
  refine dn_loopE (pc := 4) (body := fX13_nothings_b4 r0 p1) 44 (fun s => [(0, dnV b r0), (1, .int p1), (2, .int s.1), (3, .int s.2)]) (fun q => [(2, .int q)]) (fun s4 K4 E4 hK4 hE4 => ?_) (fun q4 => ?_) 1000 (0, 0)
  · unfold fX13_nothings_b4
    have hj36 : ∀ (l3 : Int32) (s0 : Int32) (s1 : Bool), jX13_nothings w x b 36 0 0 [(0, dnV b r0), (1, .int p1), (3, .int l3)] [.int (dnZ s1), .int s0] (dnB (fX13_nothings_j36 r0 p1 l3 s0 s1) (dnKo K4 E4)) := by
      intro l3 s0 s1
      unfold fX13_nothings_j36
      refine dn_iadd (pc := 36) dX13_nothings_36 ?_
      refine dn_istore_n (pc := 37) dX13_nothings_37 (Nat.le_of_ble_eq_true rfl) (dnKp_nb 1 rfl rfl rfl (dnKp_of (lv2 := [(0, dnV b r0), (3, .int l3)]) [0, 2] rfl rfl)) ?_
      refine dn_iinc (pc := 38) (l3 + 1) 3 dX13_nothings_38 rfl rfl (Nat.le_of_ble_eq_true rfl) (dnKp_nb 0 rfl rfl rfl (dnKp_of (lv2 := [(1, .int p1), (0, dnV b r0)]) [1, 2] rfl rfl)) ?_
      refine dn_goto (pc := 41) 4 dX13_nothings_41 rfl ?_
      refine dn_leaf ?_
      exact dn_lv [3, 2, 1, 0] rfl (hK4 ((s0 + (dnZ s1)), (l3 + 1)))
    refine dn_iload_n (pc := 4) 3 dX13_nothings_4 rfl ?_
    refine dn_aload_n (pc := 5) r0 0 dX13_nothings_5 rfl ?_
    refine dn_getR (pc := 6) r0 lRX13_26 dX13_nothings_6 (fun v1 => ?_)
    refine dn_iload_n (pc := 9) 1 dX13_nothings_9 rfl ?_
    refine dn_iald (pc := 10) v1 dX13_nothings_10 (fun v2 => ?_)
    refine dn_icmp_ge (pc := 11) 44 dX13_nothings_11 rfl (fun _ => ?_) (fun _ => ?_)
    · refine dn_leaf ?_
      exact dn_lv [2] rfl (hE4 s4.1)
    · refine dn_iload_n (pc := 14) 2 dX13_nothings_14 rfl ?_
      refine dn_aload_n (pc := 15) r0 0 dX13_nothings_15 rfl ?_
      refine dn_getR (pc := 16) r0 lRX13_32 dX13_nothings_16 (fun v3 => ?_)
      refine dn_bipush (pc := 19) (v := 12) dX13_nothings_19 rfl ?_
      refine dn_iload_n (pc := 21) 1 dX13_nothings_21 rfl ?_
      refine dn_imul (pc := 22) dX13_nothings_22 ?_
      refine dn_iload_n (pc := 23) 3 dX13_nothings_23 rfl ?_
      refine dn_iadd (pc := 24) dX13_nothings_24 ?_
      refine dn_iald (pc := 25) v3 dX13_nothings_25 (fun v4 => ?_)
      refine dn_bipush (pc := 26) (v := 11) dX13_nothings_26 rfl ?_
      refine dn_icmp_ne (pc := 28) 35 dX13_nothings_28 rfl (fun _ => ?_) (fun _ => ?_)
      · refine dn_iconst (pc := 35) (v := 0) dX13_nothings_35 rfl ?_
        exact dn_lv [0, 1, 3] rfl (hj36 s4.2 s4.1 false)
      · refine dn_iconst (pc := 31) (v := 1) dX13_nothings_31 rfl ?_
        refine dn_goto (pc := 32) 36 dX13_nothings_32 rfl ?_
        exact dn_lv [0, 1, 3] rfl (hj36 s4.2 s4.1 true)
  · refine dn_iload_n (pc := 44) 0 dX13_nothings_44 rfl ?_
    exact dn_ret (Nat.le_of_ble_eq_true rfl) (Nat.le_of_ble_eq_true rfl) rfl dX13_nothings_45
abbrev rmX13_ofRows : Room := { frames := 1, cells := 0, slots := 0, locals := 23 }
def fX13_ofRows_j51 (l0 : Option Nat) (l1 : Int32) (l2 : Int32) (l3 : Int32) : dnM ((Int32 × Int32) ⊕ (Int32)) :=
  dnP (.inl (l2, (l3 + 1)))
def fX13_ofRows_j49 (l0 : Option Nat) (l1 : Int32) (l3 : Int32) (s0 : Int32) (s1 : Int32) : dnM ((Int32 × Int32) ⊕ (Int32)) :=
  fX13_ofRows_j51 l0 l1 (s0 + s1) l3
def fX13_ofRows_b4 (c0 : Option Nat) (c1 : Int32) (s4 : Int32 × Int32) : dnM ((Int32 × Int32) ⊕ (Int32)) :=
  if 32 ≤ s4.2 then
  (dnP (.inr s4.1))
  else
  (dnB (dnCv c0 11 (fX13_holder c0 s4.2)) fun v1 =>
  if v1 = (-9) then
  (fX13_ofRows_j51 c0 c1 s4.1 s4.2)
  else
  (if ¬ c1 = 3 then
  (if ¬ c1 = 4 then
  (dnB (dnCv c0 11 (fX13_nothings c0 s4.2)) fun v2 =>
  fX13_ofRows_j49 c0 c1 s4.2 s4.1 v2)
  else
  (dnB (dnGR c0 11 7) fun v3 =>
  dnB (dnAI v3 100 s4.2) fun v4 =>
  fX13_ofRows_j49 c0 c1 s4.2 s4.1 v4))
  else
  (fX13_ofRows_j49 c0 c1 s4.2 s4.1 1)))
def fX13_ofRows (r0 : Option Nat) (p1 : Int32) : dnM Int32 :=
  dnB (dnIt 1000 (fX13_ofRows_b4 r0 p1) (0, 0)) fun q4 =>
  dnP q4
abbrev jX13_ofRows (w : dnWd) (x : dnX) (b : Nat) := dnD w x b (fun _ => True) cX13_ofRows RX13 4 rmX13_ofRows "ofRows" eI
set_option maxHeartbeats 4000000 in
set_option maxRecDepth 100000 in
theorem mX13_ofRows (w : dnWd) (x : dnX) (b : Nat) (r0 : Option Nat) (p1 : Int32) : dnMt w x b yX13_ofRows cX13_ofRows 4 (some .int) rmX13_ofRows eI [dnV b r0, .int p1] (fX13_ofRows r0 p1) := by
  have hlv : lv_args 0 [dnV b r0, .int p1] = [(0, dnV b r0), (1, .int p1)] := by cases r0 <;> rfl
  refine dn_mt (by decide +kernel) roI (by cases r0 <;> exact (Nat.le_of_ble_eq_true rfl)) ?_
  rw [hlv]
  refine dn_top ?_
  show jX13_ofRows w x b 0 0 0 _ [] (dnB _ dnP)
  unfold fX13_ofRows
  refine dn_iconst (pc := 0) (v := 0) dX13_ofRows_0 rfl ?_
  refine dn_istore_n (pc := 1) dX13_ofRows_1 (Nat.le_of_ble_eq_true rfl) (dnKp_nb 1 rfl rfl rfl (dnKp_of (lv2 := [(0, dnV b r0)]) [0] rfl rfl)) ?_
  refine dn_iconst (pc := 2) (v := 0) dX13_ofRows_2 rfl ?_
  refine dn_istore_n (pc := 3) dX13_ofRows_3 (Nat.le_of_ble_eq_true rfl) (dnKp_nb 0 rfl rfl rfl (dnKp_of (lv2 := [(1, .int p1), (0, dnV b r0)]) [1, 2] rfl rfl)) ?_
  refine dn_assoc ?_
  refine dn_lv [3, 2, 1, 0] (lv2 := (fun s => [(0, dnV b r0), (1, .int p1), (2, .int s.1), (3, .int s.2)]) (0, 0)) rfl ?_
  refine dn_loopE (pc := 4) (body := fX13_ofRows_b4 r0 p1) 57 (fun s => [(0, dnV b r0), (1, .int p1), (2, .int s.1), (3, .int s.2)]) (fun q => [(2, .int q)]) (fun s4 K4 E4 hK4 hE4 => ?_) (fun q4 => ?_) 1000 (0, 0)
  · unfold fX13_ofRows_b4
    have hj51 : ∀ (l2 : Int32) (l3 : Int32), jX13_ofRows w x b 51 0 0 [(0, dnV b r0), (1, .int p1), (2, .int l2), (3, .int l3)] [] (dnB (fX13_ofRows_j51 r0 p1 l2 l3) (dnKo K4 E4)) := by
      intro l2 l3
      unfold fX13_ofRows_j51
      refine dn_iinc (pc := 51) (l3 + 1) 3 dX13_ofRows_51 rfl rfl (Nat.le_of_ble_eq_true rfl) (dnKp_nb 2 rfl rfl rfl (dnKp_of (lv2 := [(0, dnV b r0), (1, .int p1)]) [0, 1] rfl rfl)) ?_
      refine dn_goto (pc := 54) 4 dX13_ofRows_54 rfl ?_
      refine dn_leaf ?_
      exact dn_lv [2, 3, 1, 0] rfl (hK4 (l2, (l3 + 1)))
    have hj49 : ∀ (l3 : Int32) (s0 : Int32) (s1 : Int32), jX13_ofRows w x b 49 0 0 [(0, dnV b r0), (1, .int p1), (3, .int l3)] [.int s1, .int s0] (dnB (fX13_ofRows_j49 r0 p1 l3 s0 s1) (dnKo K4 E4)) := by
      intro l3 s0 s1
      unfold fX13_ofRows_j49
      refine dn_iadd (pc := 49) dX13_ofRows_49 ?_
      refine dn_istore_n (pc := 50) dX13_ofRows_50 (Nat.le_of_ble_eq_true rfl) (dnKp_nb 1 rfl rfl rfl (dnKp_of (lv2 := [(0, dnV b r0), (3, .int l3)]) [0, 2] rfl rfl)) ?_
      exact dn_lv [2, 1, 0, 3] rfl (hj51 (s0 + s1) l3)
    refine dn_iload_n (pc := 4) 3 dX13_ofRows_4 rfl ?_
    refine dn_bipush (pc := 5) (v := 32) dX13_ofRows_5 rfl ?_
    refine dn_icmp_ge (pc := 7) 57 dX13_ofRows_7 rfl (fun _ => ?_) (fun _ => ?_)
    · refine dn_leaf ?_
      exact dn_lv [2] rfl (hE4 s4.1)
    · refine dn_aload_n (pc := 10) r0 0 dX13_ofRows_10 rfl ?_
      refine dn_iload_n (pc := 11) 3 dX13_ofRows_11 rfl ?_
      refine dn_callV0I (pc := 12) [.int s4.2] r0 kRX13_537 (mX13_holder w x b r0 s4.2) rfl rfl (Nat.le_of_ble_eq_true rfl) ⟨(Nat.le_of_ble_eq_true rfl), (Nat.le_of_ble_eq_true rfl)⟩ ⟨rfl, rfl, (Nat.le_of_ble_eq_true rfl), (Nat.le_of_ble_eq_true rfl)⟩ dX13_ofRows_12 (fun v1 => ?_)
      refine dn_bipush (pc := 15) (v := -9) dX13_ofRows_15 rfl ?_
      refine dn_icmp_eq (pc := 17) 51 dX13_ofRows_17 rfl (fun _ => ?_) (fun _ => ?_)
      · exact dn_lv [0, 1, 2, 3] rfl (hj51 s4.1 s4.2)
      · refine dn_iload_n (pc := 20) 2 dX13_ofRows_20 rfl ?_
        refine dn_iload_n (pc := 21) 1 dX13_ofRows_21 rfl ?_
        refine dn_iconst (pc := 22) (v := 3) dX13_ofRows_22 rfl ?_
        refine dn_icmp_ne (pc := 23) 30 dX13_ofRows_23 rfl (fun _ => ?_) (fun _ => ?_)
        · refine dn_iload_n (pc := 30) 1 dX13_ofRows_30 rfl ?_
          refine dn_iconst (pc := 31) (v := 4) dX13_ofRows_31 rfl ?_
          refine dn_icmp_ne (pc := 32) 44 dX13_ofRows_32 rfl (fun _ => ?_) (fun _ => ?_)
          · refine dn_aload_n (pc := 44) r0 0 dX13_ofRows_44 rfl ?_
            refine dn_iload_n (pc := 45) 3 dX13_ofRows_45 rfl ?_
            refine dn_callV0I (pc := 46) [.int s4.2] r0 kRX13_540 (mX13_nothings w x b r0 s4.2) rfl rfl (Nat.le_of_ble_eq_true rfl) ⟨(Nat.le_of_ble_eq_true rfl), (Nat.le_of_ble_eq_true rfl)⟩ ⟨rfl, rfl, (Nat.le_of_ble_eq_true rfl), (Nat.le_of_ble_eq_true rfl)⟩ dX13_ofRows_46 (fun v2 => ?_)
            exact dn_lv [0, 1, 3] rfl (hj49 s4.2 s4.1 v2)
          · refine dn_aload_n (pc := 35) r0 0 dX13_ofRows_35 rfl ?_
            refine dn_getR (pc := 36) r0 lRX13_26 dX13_ofRows_36 (fun v3 => ?_)
            refine dn_iload_n (pc := 39) 3 dX13_ofRows_39 rfl ?_
            refine dn_iald (pc := 40) v3 dX13_ofRows_40 (fun v4 => ?_)
            refine dn_goto (pc := 41) 49 dX13_ofRows_41 rfl ?_
            exact dn_lv [0, 1, 3] rfl (hj49 s4.2 s4.1 v4)
        · refine dn_iconst (pc := 26) (v := 1) dX13_ofRows_26 rfl ?_
          refine dn_goto (pc := 27) 49 dX13_ofRows_27 rfl ?_
          exact dn_lv [0, 1, 3] rfl (hj49 s4.2 s4.1 1)
  · refine dn_iload_n (pc := 57) 0 dX13_ofRows_57 rfl ?_
    exact dn_ret (Nat.le_of_ble_eq_true rfl) (Nat.le_of_ble_eq_true rfl) rfl dX13_ofRows_58
abbrev rmX13_placesWith : Room := { frames := 1, cells := 0, slots := 0, locals := 22 }
def fX13_placesWith_j48 (l0 : Option Nat) (l1 : Int32) (l2 : Int32) (l4 : Int32) (l5 : Int32) (s0 : Int32) (s1 : Bool) : dnM ((Int32 × Int32) ⊕ (Int32)) :=
  dnP (.inl ((s0 + (dnZ s1)), (l5 + 1)))
def fX13_placesWith_b14 (c0 : Option Nat) (c1 : Int32) (c2 : Int32) (c4 : Int32) (s14 : Int32 × Int32) : dnM ((Int32 × Int32) ⊕ (Int32)) :=
  dnB (dnGR c0 11 4) fun v1 =>
  dnB (dnAI v1 100 c4) fun v2 =>
  if v2 ≤ s14.2 then
  (dnP (.inr s14.1))
  else
  (dnB (dnCv c0 11 (fX13_held c0 c4 s14.2)) fun v3 =>
  dnB (fX13_in v3 c1 c2) fun v4 =>
  if v4 = true then
  (fX13_placesWith_j48 c0 c1 c2 c4 s14.2 s14.1 true)
  else
  (fX13_placesWith_j48 c0 c1 c2 c4 s14.2 s14.1 false))
def fX13_placesWith_b5 (c0 : Option Nat) (c1 : Int32) (c2 : Int32) (s5 : Int32 × Int32) : dnM ((Int32 × Int32) ⊕ (Int32)) :=
  if 4 ≤ s5.2 then
  (dnP (.inr s5.1))
  else
  (dnB (dnIt 1000 (fX13_placesWith_b14 c0 c1 c2 s5.2) (s5.1, 0)) fun q14 =>
  dnP (.inl (q14, (s5.2 + 1))))
def fX13_placesWith (r0 : Option Nat) (p1 : Int32) (p2 : Int32) : dnM Int32 :=
  dnB (dnIt 1000 (fX13_placesWith_b5 r0 p1 p2) (0, 0)) fun q5 =>
  dnP q5
abbrev jX13_placesWith (w : dnWd) (x : dnX) (b : Nat) := dnD w x b (fun _ => True) cX13_placesWith RX13 6 rmX13_placesWith "placesWith" eI
set_option maxHeartbeats 4000000 in
set_option maxRecDepth 100000 in
theorem mX13_placesWith (w : dnWd) (x : dnX) (b : Nat) (r0 : Option Nat) (p1 : Int32) (p2 : Int32) : dnMt w x b yX13_placesWith cX13_placesWith 6 (some .int) rmX13_placesWith eI [dnV b r0, .int p1, .int p2] (fX13_placesWith r0 p1 p2) := by
  have hlv : lv_args 0 [dnV b r0, .int p1, .int p2] = [(0, dnV b r0), (1, .int p1), (2, .int p2)] := by cases r0 <;> rfl
  refine dn_mt (by decide +kernel) roI (by cases r0 <;> exact (Nat.le_of_ble_eq_true rfl)) ?_
  rw [hlv]
  refine dn_top ?_
  show jX13_placesWith w x b 0 0 0 _ [] (dnB _ dnP)
  unfold fX13_placesWith
  refine dn_iconst (pc := 0) (v := 0) dX13_placesWith_0 rfl ?_
  refine dn_istore_n (pc := 1) dX13_placesWith_1 (Nat.le_of_ble_eq_true rfl) (dnKp_nb 2 rfl rfl rfl (dnKp_of (lv2 := [(0, dnV b r0), (1, .int p1)]) [0, 1] rfl rfl)) ?_
  refine dn_iconst (pc := 2) (v := 0) dX13_placesWith_2 rfl ?_
  refine dn_istore (pc := 3) dX13_placesWith_3 (Nat.le_of_ble_eq_true rfl) (dnKp_nb 0 rfl rfl rfl (dnKp_of (lv2 := [(2, .int p2), (0, dnV b r0), (1, .int p1)]) [1, 2, 3] rfl rfl)) ?_
  refine dn_assoc ?_
  refine dn_lv [3, 4, 2, 1, 0] (lv2 := (fun s => [(0, dnV b r0), (1, .int p1), (2, .int p2), (3, .int s.1), (4, .int s.2)]) (0, 0)) rfl ?_
  refine dn_loopE (pc := 5) (body := fX13_placesWith_b5 r0 p1 p2) 62 (fun s => [(0, dnV b r0), (1, .int p1), (2, .int p2), (3, .int s.1), (4, .int s.2)]) (fun q => [(3, .int q)]) (fun s5 K5 E5 hK5 hE5 => ?_) (fun q5 => ?_) 1000 (0, 0)
  · unfold fX13_placesWith_b5
    refine dn_iload (pc := 5) 4 dX13_placesWith_5 rfl ?_
    refine dn_iconst (pc := 7) (v := 4) dX13_placesWith_7 rfl ?_
    refine dn_icmp_ge (pc := 8) 62 dX13_placesWith_8 rfl (fun _ => ?_) (fun _ => ?_)
    · refine dn_leaf ?_
      exact dn_lv [3] rfl (hE5 s5.1)
    · refine dn_iconst (pc := 11) (v := 0) dX13_placesWith_11 rfl ?_
      refine dn_istore (pc := 12) dX13_placesWith_12 (Nat.le_of_ble_eq_true rfl) (dnKp_nb 4 rfl rfl rfl (dnKp_of (lv2 := [(0, dnV b r0), (1, .int p1), (2, .int p2), (3, .int s5.1)]) [0, 1, 2, 3] rfl rfl)) ?_
      refine dn_assoc ?_
      refine dn_lv [2, 3, 4, 5, 1, 0] (lv2 := (fun s => [(0, dnV b r0), (1, .int p1), (2, .int p2), (3, .int s.1), (4, .int s5.2), (5, .int s.2)]) (s5.1, 0)) rfl ?_
      refine dn_loopE (pc := 14) (body := fX13_placesWith_b14 r0 p1 p2 s5.2) 56 (fun s => [(0, dnV b r0), (1, .int p1), (2, .int p2), (3, .int s.1), (4, .int s5.2), (5, .int s.2)]) (fun q => [(0, dnV b r0), (1, .int p1), (2, .int p2), (3, .int q), (4, .int s5.2)]) (fun s14 K14 E14 hK14 hE14 => ?_) (fun q14 => ?_) 1000 (s5.1, 0)
      · unfold fX13_placesWith_b14
        have hj48 : ∀ (l5 : Int32) (s0 : Int32) (s1 : Bool), jX13_placesWith w x b 48 0 0 [(0, dnV b r0), (1, .int p1), (2, .int p2), (4, .int s5.2), (5, .int l5)] [.int (dnZ s1), .int s0] (dnB (fX13_placesWith_j48 r0 p1 p2 s5.2 l5 s0 s1) (dnKo K14 E14)) := by
          intro l5 s0 s1
          unfold fX13_placesWith_j48
          refine dn_iadd (pc := 48) dX13_placesWith_48 ?_
          refine dn_istore_n (pc := 49) dX13_placesWith_49 (Nat.le_of_ble_eq_true rfl) (dnKp_nb 2 rfl rfl rfl (dnKp_of (lv2 := [(0, dnV b r0), (1, .int p1), (4, .int s5.2), (5, .int l5)]) [0, 1, 3, 4] rfl rfl)) ?_
          refine dn_iinc (pc := 50) (l5 + 1) 5 dX13_placesWith_50 rfl rfl (Nat.le_of_ble_eq_true rfl) (dnKp_nb 4 rfl rfl rfl (dnKp_of (lv2 := [(3, .int (s0 + (dnZ s1))), (2, .int p2), (0, dnV b r0), (1, .int p1)]) [0, 1, 2, 3] rfl rfl)) ?_
          refine dn_goto (pc := 53) 14 dX13_placesWith_53 rfl ?_
          refine dn_leaf ?_
          exact dn_lv [4, 5, 3, 2, 1, 0] rfl (hK14 ((s0 + (dnZ s1)), (l5 + 1)))
        refine dn_iload (pc := 14) 5 dX13_placesWith_14 rfl ?_
        refine dn_aload_n (pc := 16) r0 0 dX13_placesWith_16 rfl ?_
        refine dn_getR (pc := 17) r0 lRX13_17 dX13_placesWith_17 (fun v1 => ?_)
        refine dn_iload (pc := 20) 4 dX13_placesWith_20 rfl ?_
        refine dn_iald (pc := 22) v1 dX13_placesWith_22 (fun v2 => ?_)
        refine dn_icmp_ge (pc := 23) 56 dX13_placesWith_23 rfl (fun _ => ?_) (fun _ => ?_)
        · refine dn_leaf ?_
          exact dn_lv [0, 1, 2, 3, 4] rfl (hE14 s14.1)
        · refine dn_iload_n (pc := 26) 3 dX13_placesWith_26 rfl ?_
          refine dn_aload_n (pc := 27) r0 0 dX13_placesWith_27 rfl ?_
          refine dn_iload (pc := 28) 4 dX13_placesWith_28 rfl ?_
          refine dn_iload (pc := 30) 5 dX13_placesWith_30 rfl ?_
          refine dn_callV0I (pc := 32) [.int s5.2, .int s14.2] r0 kRX13_128 (mX13_held w x b r0 s5.2 s14.2) rfl rfl (Nat.le_of_ble_eq_true rfl) ⟨(Nat.le_of_ble_eq_true rfl), (Nat.le_of_ble_eq_true rfl)⟩ ⟨rfl, rfl, (Nat.le_of_ble_eq_true rfl), (Nat.le_of_ble_eq_true rfl)⟩ dX13_placesWith_32 (fun v3 => ?_)
          refine dn_iload_n (pc := 35) 1 dX13_placesWith_35 rfl ?_
          refine dn_iload_n (pc := 36) 2 dX13_placesWith_36 rfl ?_
          refine dn_callS0Z (pc := 37) [.int v3, .int p1, .int p2]  kRX13_109 (mX13_in w x b v3 p1 p2) rfl rfl (Nat.le_of_ble_eq_true rfl) ⟨(Nat.le_of_ble_eq_true rfl), (Nat.le_of_ble_eq_true rfl)⟩ ⟨rfl, rfl, (Nat.le_of_ble_eq_true rfl), (Nat.le_of_ble_eq_true rfl)⟩ dX13_placesWith_37 (fun v4 => ?_)
          refine dn_ifz_eq (pc := 40) 47 dX13_placesWith_40 rfl (fun _ => ?_) (fun _ => ?_)
          · refine dn_iconst (pc := 43) (v := 1) dX13_placesWith_43 rfl ?_
            refine dn_goto (pc := 44) 48 dX13_placesWith_44 rfl ?_
            exact dn_lv [0, 1, 2, 4, 5] rfl (hj48 s14.2 s14.1 true)
          · refine dn_iconst (pc := 47) (v := 0) dX13_placesWith_47 rfl ?_
            exact dn_lv [0, 1, 2, 4, 5] rfl (hj48 s14.2 s14.1 false)
      · refine dn_iinc (pc := 56) (s5.2 + 1) 4 dX13_placesWith_56 rfl rfl (Nat.le_of_ble_eq_true rfl) (dnKp_nb 3 rfl rfl rfl (dnKp_of (lv2 := [(0, dnV b r0), (1, .int p1), (2, .int p2)]) [0, 1, 2] rfl rfl)) ?_
        refine dn_goto (pc := 59) 5 dX13_placesWith_59 rfl ?_
        refine dn_leaf ?_
        exact dn_lv [2, 3, 4, 1, 0] rfl (hK5 (q14, (s5.2 + 1)))
  · refine dn_iload_n (pc := 62) 0 dX13_placesWith_62 rfl ?_
    exact dn_ret (Nat.le_of_ble_eq_true rfl) (Nat.le_of_ble_eq_true rfl) rfl dX13_placesWith_63
abbrev rmX13_count : Room := { frames := 2, cells := 0, slots := 0, locals := 47 }
def fX13_count_j78 (l0 : Option Nat) (l1 : Int32) : dnM Int32 :=
  dnB (dnCv l0 11 (fX13_ofRows l0 l1)) fun v1 =>
  dnP v1
def fX13_count (r0 : Option Nat) (p1 : Int32) : dnM Int32 :=
  if p1 = 0 then
  (dnB (dnCv r0 11 (fX13_gridMany r0)) fun v11 =>
  dnP v11)
  else
  (if p1 = 1 then
  (dnB (dnCv r0 11 (fX13_placesWith r0 (-3) 32)) fun v10 =>
  dnP v10)
  else
  (if p1 = 2 then
  (dnB (dnCv r0 11 (fX13_placesWith r0 0 32)) fun v9 =>
  dnP v9)
  else
  (if p1 = 3 then
  (fX13_count_j78 r0 p1)
  else
  (if p1 = 4 then
  (fX13_count_j78 r0 p1)
  else
  (if p1 = 5 then
  (dnB (dnCv r0 11 (fX13_placesWith r0 (-1) (-1))) fun v8 =>
  dnP v8)
  else
  (if p1 = 6 then
  (dnB (dnCv r0 11 (fX13_placesWith r0 (-3) (-2))) fun v7 =>
  dnP v7)
  else
  (if p1 = 7 then
  (fX13_count_j78 r0 p1)
  else
  (if p1 = 8 then
  (dnB (dnGI r0 11 37) fun v6 =>
  dnP v6)
  else
  (if p1 = 9 then
  (dnB (dnGR r0 11 28) fun v2 =>
  dnB (dnAI v2 100 0) fun v3 =>
  dnB (dnGR r0 11 28) fun v4 =>
  dnB (dnAI v4 100 1) fun v5 =>
  dnP (v3 + v5))
  else
  (dnP (-1)))))))))))
abbrev jX13_count (w : dnWd) (x : dnX) (b : Nat) := dnD w x b (fun _ => True) cX13_count RX13 2 rmX13_count "count" eI
set_option maxHeartbeats 4000000 in
set_option maxRecDepth 100000 in
theorem mX13_count (w : dnWd) (x : dnX) (b : Nat) (r0 : Option Nat) (p1 : Int32) : dnMt w x b yX13_count cX13_count 2 (some .int) rmX13_count eI [dnV b r0, .int p1] (fX13_count r0 p1) := by
  have hlv : lv_args 0 [dnV b r0, .int p1] = [(0, dnV b r0), (1, .int p1)] := by cases r0 <;> rfl
  refine dn_mt (by decide +kernel) roI (by cases r0 <;> exact (Nat.le_of_ble_eq_true rfl)) ?_
  rw [hlv]
  refine dn_top ?_
  show jX13_count w x b 0 0 0 _ [] (dnB _ dnP)
  unfold fX13_count
  have hj78 : ∀ (l0 : Option Nat) (l1 : Int32), jX13_count w x b 78 0 0 [(0, dnV b l0), (1, .int l1)] [] (dnB (fX13_count_j78 l0 l1) dnP) := by
    intro l0 l1
    unfold fX13_count_j78
    refine dn_aload_n (pc := 78) l0 0 dX13_count_78 rfl ?_
    refine dn_iload_n (pc := 79) 1 dX13_count_79 rfl ?_
    refine dn_callV0I (pc := 80) [.int l1] l0 kRX13_546 (mX13_ofRows w x b l0 l1) rfl rfl (Nat.le_of_ble_eq_true rfl) ⟨(Nat.le_of_ble_eq_true rfl), (Nat.le_of_ble_eq_true rfl)⟩ ⟨rfl, rfl, (Nat.le_of_ble_eq_true rfl), (Nat.le_of_ble_eq_true rfl)⟩ dX13_count_80 (fun v1 => ?_)
    exact dn_ret (Nat.le_of_ble_eq_true rfl) (Nat.le_of_ble_eq_true rfl) rfl dX13_count_83
  refine dn_iload_n (pc := 0) 1 dX13_count_0 rfl ?_
  refine dn_tcase (pc := 1) 0 56 dX13_count_1 (by decide) (by decide) rfl rfl (fun _ => ?_) (fun n1_0 => ?_)
  · refine dn_aload_n (pc := 56) r0 0 dX13_count_56 rfl ?_
    refine dn_callV0I (pc := 57) [] r0 kRX13_459 (mX13_gridMany w x b r0) rfl rfl (Nat.le_of_ble_eq_true rfl) ⟨(Nat.le_of_ble_eq_true rfl), (Nat.le_of_ble_eq_true rfl)⟩ ⟨rfl, rfl, (Nat.le_of_ble_eq_true rfl), (Nat.le_of_ble_eq_true rfl)⟩ dX13_count_57 (fun v11 => ?_)
    exact dn_ret (Nat.le_of_ble_eq_true rfl) (Nat.le_of_ble_eq_true rfl) rfl dX13_count_60
  · refine dn_tcase (pc := 1) 1 61 dX13_count_1 (by decide) (by decide) rfl rfl (fun _ => ?_) (fun n1_1 => ?_)
    · refine dn_aload_n (pc := 61) r0 0 dX13_count_61 rfl ?_
      refine dn_bipush (pc := 62) (v := -3) dX13_count_62 rfl ?_
      refine dn_bipush (pc := 64) (v := 32) dX13_count_64 rfl ?_
      refine dn_callV0I (pc := 66) [.int (-3), .int 32] r0 kRX13_543 (mX13_placesWith w x b r0 (-3) 32) rfl rfl (Nat.le_of_ble_eq_true rfl) ⟨(Nat.le_of_ble_eq_true rfl), (Nat.le_of_ble_eq_true rfl)⟩ ⟨rfl, rfl, (Nat.le_of_ble_eq_true rfl), (Nat.le_of_ble_eq_true rfl)⟩ dX13_count_66 (fun v10 => ?_)
      exact dn_ret (Nat.le_of_ble_eq_true rfl) (Nat.le_of_ble_eq_true rfl) rfl dX13_count_69
    · refine dn_tcase (pc := 1) 2 70 dX13_count_1 (by decide) (by decide) rfl rfl (fun _ => ?_) (fun n1_2 => ?_)
      · refine dn_aload_n (pc := 70) r0 0 dX13_count_70 rfl ?_
        refine dn_iconst (pc := 71) (v := 0) dX13_count_71 rfl ?_
        refine dn_bipush (pc := 72) (v := 32) dX13_count_72 rfl ?_
        refine dn_callV0I (pc := 74) [.int 0, .int 32] r0 kRX13_543 (mX13_placesWith w x b r0 0 32) rfl rfl (Nat.le_of_ble_eq_true rfl) ⟨(Nat.le_of_ble_eq_true rfl), (Nat.le_of_ble_eq_true rfl)⟩ ⟨rfl, rfl, (Nat.le_of_ble_eq_true rfl), (Nat.le_of_ble_eq_true rfl)⟩ dX13_count_74 (fun v9 => ?_)
        exact dn_ret (Nat.le_of_ble_eq_true rfl) (Nat.le_of_ble_eq_true rfl) rfl dX13_count_77
      · refine dn_tcase (pc := 1) 3 78 dX13_count_1 (by decide) (by decide) rfl rfl (fun _ => ?_) (fun n1_3 => ?_)
        · exact dn_lv [0, 1] rfl (hj78 r0 p1)
        · refine dn_tcase (pc := 1) 4 78 dX13_count_1 (by decide) (by decide) rfl rfl (fun _ => ?_) (fun n1_4 => ?_)
          · exact dn_lv [0, 1] rfl (hj78 r0 p1)
          · refine dn_tcase (pc := 1) 5 84 dX13_count_1 (by decide) (by decide) rfl rfl (fun _ => ?_) (fun n1_5 => ?_)
            · refine dn_aload_n (pc := 84) r0 0 dX13_count_84 rfl ?_
              refine dn_iconst (pc := 85) (v := -1) dX13_count_85 rfl ?_
              refine dn_iconst (pc := 86) (v := -1) dX13_count_86 rfl ?_
              refine dn_callV0I (pc := 87) [.int (-1), .int (-1)] r0 kRX13_543 (mX13_placesWith w x b r0 (-1) (-1)) rfl rfl (Nat.le_of_ble_eq_true rfl) ⟨(Nat.le_of_ble_eq_true rfl), (Nat.le_of_ble_eq_true rfl)⟩ ⟨rfl, rfl, (Nat.le_of_ble_eq_true rfl), (Nat.le_of_ble_eq_true rfl)⟩ dX13_count_87 (fun v8 => ?_)
              exact dn_ret (Nat.le_of_ble_eq_true rfl) (Nat.le_of_ble_eq_true rfl) rfl dX13_count_90
            · refine dn_tcase (pc := 1) 6 91 dX13_count_1 (by decide) (by decide) rfl rfl (fun _ => ?_) (fun n1_6 => ?_)
              · refine dn_aload_n (pc := 91) r0 0 dX13_count_91 rfl ?_
                refine dn_bipush (pc := 92) (v := -3) dX13_count_92 rfl ?_
                refine dn_bipush (pc := 94) (v := -2) dX13_count_94 rfl ?_
                refine dn_callV0I (pc := 96) [.int (-3), .int (-2)] r0 kRX13_543 (mX13_placesWith w x b r0 (-3) (-2)) rfl rfl (Nat.le_of_ble_eq_true rfl) ⟨(Nat.le_of_ble_eq_true rfl), (Nat.le_of_ble_eq_true rfl)⟩ ⟨rfl, rfl, (Nat.le_of_ble_eq_true rfl), (Nat.le_of_ble_eq_true rfl)⟩ dX13_count_96 (fun v7 => ?_)
                exact dn_ret (Nat.le_of_ble_eq_true rfl) (Nat.le_of_ble_eq_true rfl) rfl dX13_count_99
              · refine dn_tcase (pc := 1) 7 78 dX13_count_1 (by decide) (by decide) rfl rfl (fun _ => ?_) (fun n1_7 => ?_)
                · exact dn_lv [0, 1] rfl (hj78 r0 p1)
                · refine dn_tcase (pc := 1) 8 100 dX13_count_1 (by decide) (by decide) rfl rfl (fun _ => ?_) (fun n1_8 => ?_)
                  · refine dn_aload_n (pc := 100) r0 0 dX13_count_100 rfl ?_
                    refine dn_getI (pc := 101) r0 lRX13_466 dX13_count_101 (fun v6 => ?_)
                    exact dn_ret (Nat.le_of_ble_eq_true rfl) (Nat.le_of_ble_eq_true rfl) rfl dX13_count_104
                  · refine dn_tcase (pc := 1) 9 105 dX13_count_1 (by decide) (by decide) rfl rfl (fun _ => ?_) (fun n1_9 => ?_)
                    · refine dn_aload_n (pc := 105) r0 0 dX13_count_105 rfl ?_
                      refine dn_getR (pc := 106) r0 lRX13_70 dX13_count_106 (fun v2 => ?_)
                      refine dn_iconst (pc := 109) (v := 0) dX13_count_109 rfl ?_
                      refine dn_iald (pc := 110) v2 dX13_count_110 (fun v3 => ?_)
                      refine dn_aload_n (pc := 111) r0 0 dX13_count_111 rfl ?_
                      refine dn_getR (pc := 112) r0 lRX13_70 dX13_count_112 (fun v4 => ?_)
                      refine dn_iconst (pc := 115) (v := 1) dX13_count_115 rfl ?_
                      refine dn_iald (pc := 116) v4 dX13_count_116 (fun v5 => ?_)
                      refine dn_iadd (pc := 117) dX13_count_117 ?_
                      exact dn_ret (Nat.le_of_ble_eq_true rfl) (Nat.le_of_ble_eq_true rfl) rfl dX13_count_118
                    · refine dn_tout (pc := 1) [0, 1, 2, 3, 4, 5, 6, 7, 8, 9] 119 dX13_count_1 (List.forall_mem_cons.mpr ⟨n1_0, (List.forall_mem_cons.mpr ⟨n1_1, (List.forall_mem_cons.mpr ⟨n1_2, (List.forall_mem_cons.mpr ⟨n1_3, (List.forall_mem_cons.mpr ⟨n1_4, (List.forall_mem_cons.mpr ⟨n1_5, (List.forall_mem_cons.mpr ⟨n1_6, (List.forall_mem_cons.mpr ⟨n1_7, (List.forall_mem_cons.mpr ⟨n1_8, (List.forall_mem_cons.mpr ⟨n1_9, (fun _ h => absurd h List.not_mem_nil)⟩)⟩)⟩)⟩)⟩)⟩)⟩)⟩)⟩)⟩) (by decide) rfl ?_
                      refine dn_iconst (pc := 119) (v := -1) dX13_count_119 rfl ?_
                      exact dn_ret (Nat.le_of_ble_eq_true rfl) (Nat.le_of_ble_eq_true rfl) rfl dX13_count_120
abbrev rmX13_cutDeed : Room := { frames := 4, cells := 0, slots := 0, locals := 89 }
def fX13_cutDeed_b96 (c0 : Option Nat) (c1 : Int32) (c3 : Int32) (c4 : Int32) (c5 : Int32) (c7 : Int32) (c8 : Int32) (s96 : Int32) : dnM ((Int32) ⊕ (Unit)) :=
  if c4 ≤ s96 then
  (dnP (.inr ()))
  else
  (dnB (dnCv c0 11 (fX13_copies c0 c7 (c3 + s96) c8 s96)) fun _ =>
  dnP (.inl (s96 + 1)))
def fX13_cutDeed (r0 : Option Nat) (p1 : Int32) (p2 : Int32) (p3 : Int32) (p4 : Int32) (p5 : Int32) : dnM Int32 :=
  dnB (fX13_isGrid p1) fun v1 =>
  if v1 = true then
  (dnB (fX13_in p4 0 12) fun v2 =>
  if v2 = true then
  (dnB (dnCv r0 11 (fX13_rowFault r0 p1 p2)) fun v3 =>
  if v3 = 0 then
  (dnB (dnCv r0 11 (fX13_held r0 p1 p2)) fun v4 =>
  dnB (dnGR r0 11 7) fun v5 =>
  dnB (dnAI v5 100 v4) fun v6 =>
  dnB (fX13_in p3 0 (v6 - p4)) fun v7 =>
  if v7 = true then
  (dnB (dnCv r0 11 (fX13_placeFault r0 p1 p5)) fun v8 =>
  if v8 = 0 then
  (dnB (dnGR r0 11 6) fun v9 =>
  dnB (dnAI v9 100 v4) fun v10 =>
  dnB (dnCv r0 11 (fX13_newRow r0 v10 p4)) fun v11 =>
  dnB (dnIt 1000 (fX13_cutDeed_b96 r0 p1 p3 p4 p5 v4 v11) 0) fun q96 =>
  dnB (dnCv r0 11 (fX13_holdsNow r0 p1 p5 v11)) fun _ =>
  dnP p4)
  else
  (dnP (-3)))
  else
  (dnP (-6)))
  else
  (dnP v3))
  else
  (dnP (-1)))
  else
  (dnP (-1))
abbrev jX13_cutDeed (w : dnWd) (x : dnX) (b : Nat) := dnD w x b (fun _ => True) cX13_cutDeed RX13 10 rmX13_cutDeed "cutDeed" eI
set_option maxHeartbeats 4000000 in
set_option maxRecDepth 100000 in
theorem mX13_cutDeed (w : dnWd) (x : dnX) (b : Nat) (r0 : Option Nat) (p1 : Int32) (p2 : Int32) (p3 : Int32) (p4 : Int32) (p5 : Int32) : dnMt w x b yX13_cutDeed cX13_cutDeed 10 (some .int) rmX13_cutDeed eI [dnV b r0, .int p1, .int p2, .int p3, .int p4, .int p5] (fX13_cutDeed r0 p1 p2 p3 p4 p5) := by
  have hlv : lv_args 0 [dnV b r0, .int p1, .int p2, .int p3, .int p4, .int p5] = [(0, dnV b r0), (1, .int p1), (2, .int p2), (3, .int p3), (4, .int p4), (5, .int p5)] := by cases r0 <;> rfl
  refine dn_mt (by decide +kernel) roI (by cases r0 <;> exact (Nat.le_of_ble_eq_true rfl)) ?_
  rw [hlv]
  refine dn_top ?_
  show jX13_cutDeed w x b 0 0 0 _ [] (dnB _ dnP)
  unfold fX13_cutDeed
  refine dn_iload_n (pc := 0) 1 dX13_cutDeed_0 rfl ?_
  refine dn_callS0Z (pc := 1) [.int p1]  kRX13_134 (mX13_isGrid w x b p1) rfl rfl (Nat.le_of_ble_eq_true rfl) ⟨(Nat.le_of_ble_eq_true rfl), (Nat.le_of_ble_eq_true rfl)⟩ ⟨rfl, rfl, (Nat.le_of_ble_eq_true rfl), (Nat.le_of_ble_eq_true rfl)⟩ dX13_cutDeed_1 (fun v1 => ?_)
  refine dn_ifz_eq (pc := 4) 18 dX13_cutDeed_4 rfl (fun _ => ?_) (fun _ => ?_)
  · refine dn_iload (pc := 7) 4 dX13_cutDeed_7 rfl ?_
    refine dn_iconst (pc := 9) (v := 0) dX13_cutDeed_9 rfl ?_
    refine dn_bipush (pc := 10) (v := 12) dX13_cutDeed_10 rfl ?_
    refine dn_callS0Z (pc := 12) [.int p4, .int 0, .int 12]  kRX13_109 (mX13_in w x b p4 0 12) rfl rfl (Nat.le_of_ble_eq_true rfl) ⟨(Nat.le_of_ble_eq_true rfl), (Nat.le_of_ble_eq_true rfl)⟩ ⟨rfl, rfl, (Nat.le_of_ble_eq_true rfl), (Nat.le_of_ble_eq_true rfl)⟩ dX13_cutDeed_12 (fun v2 => ?_)
    refine dn_ifz_ne (pc := 15) 20 dX13_cutDeed_15 rfl (fun _ => ?_) (fun _ => ?_)
    · refine dn_aload_n (pc := 20) r0 0 dX13_cutDeed_20 rfl ?_
      refine dn_iload_n (pc := 21) 1 dX13_cutDeed_21 rfl ?_
      refine dn_iload_n (pc := 22) 2 dX13_cutDeed_22 rfl ?_
      refine dn_callV0I (pc := 23) [.int p1, .int p2] r0 kRX13_131 (mX13_rowFault w x b r0 p1 p2) rfl rfl (Nat.le_of_ble_eq_true rfl) ⟨(Nat.le_of_ble_eq_true rfl), (Nat.le_of_ble_eq_true rfl)⟩ ⟨rfl, rfl, (Nat.le_of_ble_eq_true rfl), (Nat.le_of_ble_eq_true rfl)⟩ dX13_cutDeed_23 (fun v3 => ?_)
      refine dn_istore (pc := 26) dX13_cutDeed_26 (Nat.le_of_ble_eq_true rfl) (dnKp_nb 5 rfl rfl rfl (dnKp_of (lv2 := [(0, dnV b r0), (1, .int p1), (2, .int p2), (3, .int p3), (4, .int p4)]) [0, 1, 2, 3, 4] rfl rfl)) ?_
      refine dn_iload (pc := 28) 0 dX13_cutDeed_28 rfl ?_
      refine dn_if_eq (pc := 30) 36 dX13_cutDeed_30 rfl (fun _ => ?_) (fun _ => ?_)
      · refine dn_aload_n (pc := 36) r0 2 dX13_cutDeed_36 rfl ?_
        refine dn_iload_n (pc := 37) 3 dX13_cutDeed_37 rfl ?_
        refine dn_iload_n (pc := 38) 4 dX13_cutDeed_38 rfl ?_
        refine dn_callV0I (pc := 39) [.int p1, .int p2] r0 kRX13_128 (mX13_held w x b r0 p1 p2) rfl rfl (Nat.le_of_ble_eq_true rfl) ⟨(Nat.le_of_ble_eq_true rfl), (Nat.le_of_ble_eq_true rfl)⟩ ⟨rfl, rfl, (Nat.le_of_ble_eq_true rfl), (Nat.le_of_ble_eq_true rfl)⟩ dX13_cutDeed_39 (fun v4 => ?_)
        refine dn_istore (pc := 42) dX13_cutDeed_42 (Nat.le_of_ble_eq_true rfl) (dnKp_of (lv2 := [(5, .int p5), (0, dnV b r0), (1, .int p1), (3, .int p3), (4, .int p4)]) [1, 2, 3, 5, 6] rfl rfl) ?_
        refine dn_iload_n (pc := 44) 4 dX13_cutDeed_44 rfl ?_
        refine dn_iconst (pc := 45) (v := 0) dX13_cutDeed_45 rfl ?_
        refine dn_aload_n (pc := 46) r0 2 dX13_cutDeed_46 rfl ?_
        refine dn_getR (pc := 47) r0 lRX13_26 dX13_cutDeed_47 (fun v5 => ?_)
        refine dn_iload (pc := 50) 0 dX13_cutDeed_50 rfl ?_
        refine dn_iald (pc := 52) v5 dX13_cutDeed_52 (fun v6 => ?_)
        refine dn_iload (pc := 53) 5 dX13_cutDeed_53 rfl ?_
        refine dn_isub (pc := 55) dX13_cutDeed_55 ?_
        refine dn_callS0Z (pc := 56) [.int p3, .int 0, .int (v6 - p4)]  kRX13_109 (mX13_in w x b p3 0 (v6 - p4)) rfl rfl (Nat.le_of_ble_eq_true rfl) ⟨(Nat.le_of_ble_eq_true rfl), (Nat.le_of_ble_eq_true rfl)⟩ ⟨rfl, rfl, (Nat.le_of_ble_eq_true rfl), (Nat.le_of_ble_eq_true rfl)⟩ dX13_cutDeed_56 (fun v7 => ?_)
        refine dn_ifz_ne (pc := 59) 65 dX13_cutDeed_59 rfl (fun _ => ?_) (fun _ => ?_)
        · refine dn_aload_n (pc := 65) r0 2 dX13_cutDeed_65 rfl ?_
          refine dn_iload_n (pc := 66) 3 dX13_cutDeed_66 rfl ?_
          refine dn_iload (pc := 67) 1 dX13_cutDeed_67 rfl ?_
          refine dn_callV0I (pc := 69) [.int p1, .int p5] r0 kRX13_124 (mX13_placeFault w x b r0 p1 p5) rfl rfl (Nat.le_of_ble_eq_true rfl) ⟨(Nat.le_of_ble_eq_true rfl), (Nat.le_of_ble_eq_true rfl)⟩ ⟨rfl, rfl, (Nat.le_of_ble_eq_true rfl), (Nat.le_of_ble_eq_true rfl)⟩ dX13_cutDeed_69 (fun v8 => ?_)
          refine dn_if_eq (pc := 72) 78 dX13_cutDeed_72 rfl (fun _ => ?_) (fun _ => ?_)
          · refine dn_aload_n (pc := 78) r0 2 dX13_cutDeed_78 rfl ?_
            refine dn_aload_n (pc := 79) r0 2 dX13_cutDeed_79 rfl ?_
            refine dn_getR (pc := 80) r0 lRX13_23 dX13_cutDeed_80 (fun v9 => ?_)
            refine dn_iload (pc := 83) 0 dX13_cutDeed_83 rfl ?_
            refine dn_iald (pc := 85) v9 dX13_cutDeed_85 (fun v10 => ?_)
            refine dn_iload (pc := 86) 5 dX13_cutDeed_86 rfl ?_
            refine dn_callV0I (pc := 88) [.int v10, .int p4] r0 kRX13_155 (mX13_newRow w x b r0 v10 p4) rfl rfl (Nat.le_of_ble_eq_true rfl) ⟨(Nat.le_of_ble_eq_true rfl), (Nat.le_of_ble_eq_true rfl)⟩ ⟨rfl, rfl, (Nat.le_of_ble_eq_true rfl), (Nat.le_of_ble_eq_true rfl)⟩ dX13_cutDeed_88 (fun v11 => ?_)
            refine dn_istore (pc := 91) dX13_cutDeed_91 (Nat.le_of_ble_eq_true rfl) (dnKp_nb 0 rfl rfl rfl (dnKp_of (lv2 := [(5, .int p5), (0, dnV b r0), (1, .int p1), (3, .int p3), (4, .int p4)]) [1, 2, 3, 4, 5] rfl rfl)) ?_
            refine dn_iconst (pc := 93) (v := 0) dX13_cutDeed_93 rfl ?_
            refine dn_istore (pc := 94) dX13_cutDeed_94 (Nat.le_of_ble_eq_true rfl) (dnKp_nb 0 rfl rfl rfl (dnKp_of (lv2 := [(7, .int v4), (5, .int p5), (0, dnV b r0), (1, .int p1), (3, .int p3), (4, .int p4)]) [1, 2, 3, 4, 5, 6] rfl rfl)) ?_
            refine dn_assoc ?_
            refine dn_lv [4, 5, 6, 7, 3, 2, 1, 0] (lv2 := (fun s => [(0, dnV b r0), (1, .int p1), (3, .int p3), (4, .int p4), (5, .int p5), (7, .int v4), (8, .int v11), (9, .int s)]) 0) rfl ?_
            refine dn_loopE (pc := 96) (body := fX13_cutDeed_b96 r0 p1 p3 p4 p5 v4 v11) 123 (fun s => [(0, dnV b r0), (1, .int p1), (3, .int p3), (4, .int p4), (5, .int p5), (7, .int v4), (8, .int v11), (9, .int s)]) (fun q => [(0, dnV b r0), (1, .int p1), (4, .int p4), (5, .int p5), (8, .int v11)]) (fun s96 K96 E96 hK96 hE96 => ?_) (fun q96 => ?_) 1000 0
            · unfold fX13_cutDeed_b96
              refine dn_iload (pc := 96) 7 dX13_cutDeed_96 rfl ?_
              refine dn_iload (pc := 98) 3 dX13_cutDeed_98 rfl ?_
              refine dn_icmp_ge (pc := 100) 123 dX13_cutDeed_100 rfl (fun _ => ?_) (fun _ => ?_)
              · refine dn_leaf ?_
                exact dn_lv [0, 1, 3, 4, 6] rfl (hE96 ())
              · refine dn_aload_n (pc := 103) r0 0 dX13_cutDeed_103 rfl ?_
                refine dn_iload (pc := 104) 5 dX13_cutDeed_104 rfl ?_
                refine dn_iload_n (pc := 106) 2 dX13_cutDeed_106 rfl ?_
                refine dn_iload (pc := 107) 7 dX13_cutDeed_107 rfl ?_
                refine dn_iadd (pc := 109) dX13_cutDeed_109 ?_
                refine dn_iload (pc := 110) 6 dX13_cutDeed_110 rfl ?_
                refine dn_iload (pc := 112) 7 dX13_cutDeed_112 rfl ?_
                refine dn_callV0U (pc := 114) [.int v4, .int (p3 + s96), .int v11, .int s96] r0 kRX13_280 (mX13_copies w x b r0 v4 (p3 + s96) v11 s96) rfl rfl (Nat.le_of_ble_eq_true rfl) ⟨(Nat.le_of_ble_eq_true rfl), (Nat.le_of_ble_eq_true rfl)⟩ ⟨rfl, rfl, (Nat.le_of_ble_eq_true rfl), (Nat.le_of_ble_eq_true rfl)⟩ dX13_cutDeed_114 (fun _ => ?_)
                refine dn_iinc (pc := 117) (s96 + 1) 7 dX13_cutDeed_117 rfl rfl (Nat.le_of_ble_eq_true rfl) (dnKp_nb 6 rfl rfl rfl (dnKp_of (lv2 := [(0, dnV b r0), (1, .int p1), (3, .int p3), (4, .int p4), (5, .int p5), (7, .int v4)]) [0, 1, 2, 3, 4, 5] rfl rfl)) ?_
                refine dn_goto (pc := 120) 96 dX13_cutDeed_120 rfl ?_
                refine dn_leaf ?_
                exact dn_lv [2, 3, 4, 5, 6, 7, 1, 0] rfl (hK96 (s96 + 1))
            · refine dn_aload_n (pc := 123) r0 0 dX13_cutDeed_123 rfl ?_
              refine dn_iload_n (pc := 124) 1 dX13_cutDeed_124 rfl ?_
              refine dn_iload (pc := 125) 3 dX13_cutDeed_125 rfl ?_
              refine dn_iload (pc := 127) 4 dX13_cutDeed_127 rfl ?_
              refine dn_callV0U (pc := 129) [.int p1, .int p5, .int v11] r0 kRX13_145 (mX13_holdsNow w x b r0 p1 p5 v11) rfl rfl (Nat.le_of_ble_eq_true rfl) ⟨(Nat.le_of_ble_eq_true rfl), (Nat.le_of_ble_eq_true rfl)⟩ ⟨rfl, rfl, (Nat.le_of_ble_eq_true rfl), (Nat.le_of_ble_eq_true rfl)⟩ dX13_cutDeed_129 (fun _ => ?_)
              refine dn_iload (pc := 132) 2 dX13_cutDeed_132 rfl ?_
              exact dn_ret (Nat.le_of_ble_eq_true rfl) (Nat.le_of_ble_eq_true rfl) rfl dX13_cutDeed_134
          · refine dn_bipush (pc := 75) (v := -3) dX13_cutDeed_75 rfl ?_
            exact dn_ret (Nat.le_of_ble_eq_true rfl) (Nat.le_of_ble_eq_true rfl) rfl dX13_cutDeed_77
        · refine dn_bipush (pc := 62) (v := -6) dX13_cutDeed_62 rfl ?_
          exact dn_ret (Nat.le_of_ble_eq_true rfl) (Nat.le_of_ble_eq_true rfl) rfl dX13_cutDeed_64
      · refine dn_iload (pc := 33) 0 dX13_cutDeed_33 rfl ?_
        exact dn_ret (Nat.le_of_ble_eq_true rfl) (Nat.le_of_ble_eq_true rfl) rfl dX13_cutDeed_35
    · refine dn_iconst (pc := 18) (v := -1) dX13_cutDeed_18 rfl ?_
      exact dn_ret (Nat.le_of_ble_eq_true rfl) (Nat.le_of_ble_eq_true rfl) rfl dX13_cutDeed_19
  · refine dn_iconst (pc := 18) (v := -1) dX13_cutDeed_18 rfl ?_
    exact dn_ret (Nat.le_of_ble_eq_true rfl) (Nat.le_of_ble_eq_true rfl) rfl dX13_cutDeed_19
abbrev rmX13_cut : Room := { frames := 5, cells := 0, slots := 0, locals := 118 }
def fX13_cut (r0 : Option Nat) (p1 : Int32) (p2 : Int32) (p3 : Int32) (p4 : Int32) (p5 : Int32) : dnM Int32 :=
  dnB (dnCv r0 11 (fX13_cutDeed r0 p1 p2 p3 p4 p5)) fun v1 =>
  dnB (dnCv r0 11 (fX13_said r0 v1)) fun v2 =>
  dnP v2
abbrev jX13_cut (w : dnWd) (x : dnX) (b : Nat) := dnD w x b (fun _ => True) cX13_cut RX13 6 rmX13_cut "cut" eI
set_option maxHeartbeats 4000000 in
set_option maxRecDepth 100000 in
theorem mX13_cut (w : dnWd) (x : dnX) (b : Nat) (r0 : Option Nat) (p1 : Int32) (p2 : Int32) (p3 : Int32) (p4 : Int32) (p5 : Int32) : dnMt w x b yX13_cut cX13_cut 6 (some .int) rmX13_cut eI [dnV b r0, .int p1, .int p2, .int p3, .int p4, .int p5] (fX13_cut r0 p1 p2 p3 p4 p5) := by
  have hlv : lv_args 0 [dnV b r0, .int p1, .int p2, .int p3, .int p4, .int p5] = [(0, dnV b r0), (1, .int p1), (2, .int p2), (3, .int p3), (4, .int p4), (5, .int p5)] := by cases r0 <;> rfl
  refine dn_mt (by decide +kernel) roI (by cases r0 <;> exact (Nat.le_of_ble_eq_true rfl)) ?_
  rw [hlv]
  refine dn_top ?_
  show jX13_cut w x b 0 0 0 _ [] (dnB _ dnP)
  unfold fX13_cut
  refine dn_aload_n (pc := 0) r0 0 dX13_cut_0 rfl ?_
  refine dn_aload_n (pc := 1) r0 0 dX13_cut_1 rfl ?_
  refine dn_iload_n (pc := 2) 1 dX13_cut_2 rfl ?_
  refine dn_iload_n (pc := 3) 2 dX13_cut_3 rfl ?_
  refine dn_iload_n (pc := 4) 3 dX13_cut_4 rfl ?_
  refine dn_iload (pc := 5) 4 dX13_cut_5 rfl ?_
  refine dn_iload (pc := 7) 5 dX13_cut_7 rfl ?_
  refine dn_callV0I (pc := 9) [.int p1, .int p2, .int p3, .int p4, .int p5] r0 kRX13_284 (mX13_cutDeed w x b r0 p1 p2 p3 p4 p5) rfl rfl (Nat.le_of_ble_eq_true rfl) ⟨(Nat.le_of_ble_eq_true rfl), (Nat.le_of_ble_eq_true rfl)⟩ ⟨rfl, rfl, (Nat.le_of_ble_eq_true rfl), (Nat.le_of_ble_eq_true rfl)⟩ dX13_cut_9 (fun v1 => ?_)
  refine dn_callV0I (pc := 12) [.int v1] r0 kRX13_137 (mX13_said w x b r0 v1) rfl rfl (Nat.le_of_ble_eq_true rfl) ⟨(Nat.le_of_ble_eq_true rfl), (Nat.le_of_ble_eq_true rfl)⟩ ⟨rfl, rfl, (Nat.le_of_ble_eq_true rfl), (Nat.le_of_ble_eq_true rfl)⟩ dX13_cut_12 (fun v2 => ?_)
  exact dn_ret (Nat.le_of_ble_eq_true rfl) (Nat.le_of_ble_eq_true rfl) rfl dX13_cut_15
abbrev rmX13_dealDeed : Room := { frames := 4, cells := 0, slots := 0, locals := 89 }
def fX13_dealDeed_j126 (l0 : Option Nat) (l3 : Int32) (l4 : Int32) (l6 : Int32) (l7 : Int32) (l8 : Int32) (s0 : Option Nat) (s1 : Int32) (s2 : Option Nat) (s3 : Int32) (s4 : Int32) : dnM ((Int32) ⊕ (Unit)) :=
  dnB (dnCv s2 11 (fX13_newRow s2 s3 s4)) fun v8 =>
  dnB (dnTI s0 100 s1 v8) fun _ =>
  dnP (.inl (l8 + 1))
def fX13_dealDeed_b79 (c0 : Option Nat) (c3 : Int32) (c4 : Int32) (c6 : Int32) (c7 : Int32) (s79 : Int32) : dnM ((Int32) ⊕ (Unit)) :=
  if c7 ≤ s79 then
  (dnP (.inr ()))
  else
  (dnB (dnGR c0 11 7) fun v9 =>
  dnB (dnAI v9 100 c6) fun v10 =>
  dnB (dnGR c0 11 18) fun v11 =>
  dnB (dnGR c0 11 6) fun v12 =>
  dnB (dnAI v12 100 c6) fun v13 =>
  if c3 ≤ (v10 - (s79 * c3)) then
  (fX13_dealDeed_j126 c0 c3 c4 c6 c7 s79 v11 s79 c0 v13 c3)
  else
  (fX13_dealDeed_j126 c0 c3 c4 c6 c7 s79 v11 s79 c0 v13 (v10 - (s79 * c3))))
def fX13_dealDeed_b139 (c0 : Option Nat) (c3 : Int32) (c4 : Int32) (c6 : Int32) (c7 : Int32) (s139 : Int32) : dnM ((Int32) ⊕ (Unit)) :=
  dnB (dnGR c0 11 7) fun v14 =>
  dnB (dnAI v14 100 c6) fun v15 =>
  if v15 ≤ s139 then
  (dnP (.inr ()))
  else
  (dnB (dnGR c0 11 18) fun v16 =>
  dnB (dnNz c3) fun _ =>
  dnB (dnAI v16 100 (s139 / c3)) fun v17 =>
  dnB (dnNz c3) fun _ =>
  dnB (dnCv c0 11 (fX13_copies c0 c6 s139 v17 (s139 - s139 / c3 * c3))) fun _ =>
  dnP (.inl (s139 + 1)))
def fX13_dealDeed (r0 : Option Nat) (p1 : Int32) (p2 : Int32) (p3 : Int32) (p4 : Int32) : dnM Int32 :=
  dnB (fX13_isGrid p1) fun v1 =>
  if v1 = true then
  (dnB (fX13_in p3 1 12) fun v2 =>
  if v2 = true then
  (dnB (fX13_isGrid p4) fun v3 =>
  if v3 = true then
  (dnB (dnCv r0 11 (fX13_rowFault r0 p1 p2)) fun v4 =>
  if v4 = 0 then
  (dnB (dnCv r0 11 (fX13_held r0 p1 p2)) fun v5 =>
  dnB (dnGR r0 11 7) fun v6 =>
  dnB (dnAI v6 100 v5) fun v7 =>
  dnB (dnNz p3) fun _ =>
  if (((v7 + p3) - 1) / p3) ≤ 6 then
  (dnB (dnIt 1000 (fX13_dealDeed_b79 r0 p3 p4 v5 (((v7 + p3) - 1) / p3)) 0) fun q79 =>
  dnB (dnIt 1000 (fX13_dealDeed_b139 r0 p3 p4 v5 (((v7 + p3) - 1) / p3)) 0) fun q139 =>
  dnB (dnCv r0 11 (fX13_comes r0 p4 (((v7 + p3) - 1) / p3))) fun v19 =>
  dnP v19)
  else
  (dnP (-10)))
  else
  (dnP v4))
  else
  (dnP (-1)))
  else
  (dnP (-1)))
  else
  (dnP (-1))
abbrev jX13_dealDeed (w : dnWd) (x : dnX) (b : Nat) := dnD w x b (fun _ => True) cX13_dealDeed RX13 10 rmX13_dealDeed "dealDeed" eI
set_option maxHeartbeats 4000000 in
set_option maxRecDepth 100000 in
theorem mX13_dealDeed (w : dnWd) (x : dnX) (b : Nat) (r0 : Option Nat) (p1 : Int32) (p2 : Int32) (p3 : Int32) (p4 : Int32) : dnMt w x b yX13_dealDeed cX13_dealDeed 10 (some .int) rmX13_dealDeed eI [dnV b r0, .int p1, .int p2, .int p3, .int p4] (fX13_dealDeed r0 p1 p2 p3 p4) := by
  have hlv : lv_args 0 [dnV b r0, .int p1, .int p2, .int p3, .int p4] = [(0, dnV b r0), (1, .int p1), (2, .int p2), (3, .int p3), (4, .int p4)] := by cases r0 <;> rfl
  refine dn_mt (by decide +kernel) roI (by cases r0 <;> exact (Nat.le_of_ble_eq_true rfl)) ?_
  rw [hlv]
  refine dn_top ?_
  show jX13_dealDeed w x b 0 0 0 _ [] (dnB _ dnP)
  unfold fX13_dealDeed
  refine dn_iload_n (pc := 0) 1 dX13_dealDeed_0 rfl ?_
  refine dn_callS0Z (pc := 1) [.int p1]  kRX13_134 (mX13_isGrid w x b p1) rfl rfl (Nat.le_of_ble_eq_true rfl) ⟨(Nat.le_of_ble_eq_true rfl), (Nat.le_of_ble_eq_true rfl)⟩ ⟨rfl, rfl, (Nat.le_of_ble_eq_true rfl), (Nat.le_of_ble_eq_true rfl)⟩ dX13_dealDeed_1 (fun v1 => ?_)
  refine dn_ifz_eq (pc := 4) 25 dX13_dealDeed_4 rfl (fun _ => ?_) (fun _ => ?_)
  · refine dn_iload_n (pc := 7) 3 dX13_dealDeed_7 rfl ?_
    refine dn_iconst (pc := 8) (v := 1) dX13_dealDeed_8 rfl ?_
    refine dn_bipush (pc := 9) (v := 12) dX13_dealDeed_9 rfl ?_
    refine dn_callS0Z (pc := 11) [.int p3, .int 1, .int 12]  kRX13_109 (mX13_in w x b p3 1 12) rfl rfl (Nat.le_of_ble_eq_true rfl) ⟨(Nat.le_of_ble_eq_true rfl), (Nat.le_of_ble_eq_true rfl)⟩ ⟨rfl, rfl, (Nat.le_of_ble_eq_true rfl), (Nat.le_of_ble_eq_true rfl)⟩ dX13_dealDeed_11 (fun v2 => ?_)
    refine dn_ifz_eq (pc := 14) 25 dX13_dealDeed_14 rfl (fun _ => ?_) (fun _ => ?_)
    · refine dn_iload (pc := 17) 4 dX13_dealDeed_17 rfl ?_
      refine dn_callS0Z (pc := 19) [.int p4]  kRX13_134 (mX13_isGrid w x b p4) rfl rfl (Nat.le_of_ble_eq_true rfl) ⟨(Nat.le_of_ble_eq_true rfl), (Nat.le_of_ble_eq_true rfl)⟩ ⟨rfl, rfl, (Nat.le_of_ble_eq_true rfl), (Nat.le_of_ble_eq_true rfl)⟩ dX13_dealDeed_19 (fun v3 => ?_)
      refine dn_ifz_ne (pc := 22) 27 dX13_dealDeed_22 rfl (fun _ => ?_) (fun _ => ?_)
      · refine dn_aload_n (pc := 27) r0 0 dX13_dealDeed_27 rfl ?_
        refine dn_iload_n (pc := 28) 1 dX13_dealDeed_28 rfl ?_
        refine dn_iload_n (pc := 29) 2 dX13_dealDeed_29 rfl ?_
        refine dn_callV0I (pc := 30) [.int p1, .int p2] r0 kRX13_131 (mX13_rowFault w x b r0 p1 p2) rfl rfl (Nat.le_of_ble_eq_true rfl) ⟨(Nat.le_of_ble_eq_true rfl), (Nat.le_of_ble_eq_true rfl)⟩ ⟨rfl, rfl, (Nat.le_of_ble_eq_true rfl), (Nat.le_of_ble_eq_true rfl)⟩ dX13_dealDeed_30 (fun v4 => ?_)
        refine dn_istore (pc := 33) dX13_dealDeed_33 (Nat.le_of_ble_eq_true rfl) (dnKp_nb 4 rfl rfl rfl (dnKp_of (lv2 := [(0, dnV b r0), (1, .int p1), (2, .int p2), (3, .int p3)]) [0, 1, 2, 3] rfl rfl)) ?_
        refine dn_iload (pc := 35) 0 dX13_dealDeed_35 rfl ?_
        refine dn_if_eq (pc := 37) 43 dX13_dealDeed_37 rfl (fun _ => ?_) (fun _ => ?_)
        · refine dn_aload_n (pc := 43) r0 2 dX13_dealDeed_43 rfl ?_
          refine dn_iload_n (pc := 44) 3 dX13_dealDeed_44 rfl ?_
          refine dn_iload_n (pc := 45) 4 dX13_dealDeed_45 rfl ?_
          refine dn_callV0I (pc := 46) [.int p1, .int p2] r0 kRX13_128 (mX13_held w x b r0 p1 p2) rfl rfl (Nat.le_of_ble_eq_true rfl) ⟨(Nat.le_of_ble_eq_true rfl), (Nat.le_of_ble_eq_true rfl)⟩ ⟨rfl, rfl, (Nat.le_of_ble_eq_true rfl), (Nat.le_of_ble_eq_true rfl)⟩ dX13_dealDeed_46 (fun v5 => ?_)
          refine dn_istore (pc := 49) dX13_dealDeed_49 (Nat.le_of_ble_eq_true rfl) (dnKp_of (lv2 := [(4, .int p4), (0, dnV b r0), (3, .int p3)]) [1, 2, 5] rfl rfl) ?_
          refine dn_aload_n (pc := 51) r0 2 dX13_dealDeed_51 rfl ?_
          refine dn_getR (pc := 52) r0 lRX13_26 dX13_dealDeed_52 (fun v6 => ?_)
          refine dn_iload (pc := 55) 0 dX13_dealDeed_55 rfl ?_
          refine dn_iald (pc := 57) v6 dX13_dealDeed_57 (fun v7 => ?_)
          refine dn_iload_n (pc := 58) 3 dX13_dealDeed_58 rfl ?_
          refine dn_iadd (pc := 59) dX13_dealDeed_59 ?_
          refine dn_iconst (pc := 60) (v := 1) dX13_dealDeed_60 rfl ?_
          refine dn_isub (pc := 61) dX13_dealDeed_61 ?_
          refine dn_iload_n (pc := 62) 3 dX13_dealDeed_62 rfl ?_
          refine dn_idiv (pc := 63) dX13_dealDeed_63 ?_
          refine dn_istore (pc := 64) dX13_dealDeed_64 (Nat.le_of_ble_eq_true rfl) (dnKp_nb 0 rfl rfl rfl (dnKp_of (lv2 := [(4, .int p4), (0, dnV b r0), (3, .int p3)]) [1, 2, 3] rfl rfl)) ?_
          refine dn_iload (pc := 66) 0 dX13_dealDeed_66 rfl ?_
          refine dn_bipush (pc := 68) (v := 6) dX13_dealDeed_68 rfl ?_
          refine dn_icmp_le (pc := 70) 76 dX13_dealDeed_70 rfl (fun _ => ?_) (fun _ => ?_)
          · refine dn_iconst (pc := 76) (v := 0) dX13_dealDeed_76 rfl ?_
            refine dn_istore (pc := 77) dX13_dealDeed_77 (Nat.le_of_ble_eq_true rfl) (dnKp_nb 0 rfl rfl rfl (dnKp_of (lv2 := [(6, .int v5), (4, .int p4), (0, dnV b r0), (3, .int p3)]) [1, 2, 3, 4] rfl rfl)) ?_
            refine dn_assoc ?_
            refine dn_lv [4, 5, 3, 2, 1, 0] (lv2 := (fun s => [(0, dnV b r0), (3, .int p3), (4, .int p4), (6, .int v5), (7, .int (((v7 + p3) - 1) / p3)), (8, .int s)]) 0) rfl ?_
            refine dn_loopE (pc := 79) (body := fX13_dealDeed_b79 r0 p3 p4 v5 (((v7 + p3) - 1) / p3)) 136 (fun s => [(0, dnV b r0), (3, .int p3), (4, .int p4), (6, .int v5), (7, .int (((v7 + p3) - 1) / p3)), (8, .int s)]) (fun q => [(0, dnV b r0), (3, .int p3), (4, .int p4), (6, .int v5), (7, .int (((v7 + p3) - 1) / p3))]) (fun s79 K79 E79 hK79 hE79 => ?_) (fun q79 => ?_) 1000 0
            · unfold fX13_dealDeed_b79
              have hj126 : ∀ (l8 : Int32) (s0 : Option Nat) (s1 : Int32) (s2 : Option Nat) (s3 : Int32) (s4 : Int32), jX13_dealDeed w x b 126 0 0 [(0, dnV b r0), (3, .int p3), (4, .int p4), (6, .int v5), (7, .int (((v7 + p3) - 1) / p3)), (8, .int l8)] [.int s4, .int s3, dnV b s2, .int s1, dnV b s0] (dnB (fX13_dealDeed_j126 r0 p3 p4 v5 (((v7 + p3) - 1) / p3) l8 s0 s1 s2 s3 s4) (dnKo K79 E79)) := by
                intro l8 s0 s1 s2 s3 s4
                unfold fX13_dealDeed_j126
                refine dn_callV0I (pc := 126) [.int s3, .int s4] s2 kRX13_155 (mX13_newRow w x b s2 s3 s4) rfl rfl (Nat.le_of_ble_eq_true rfl) ⟨(Nat.le_of_ble_eq_true rfl), (Nat.le_of_ble_eq_true rfl)⟩ ⟨rfl, rfl, (Nat.le_of_ble_eq_true rfl), (Nat.le_of_ble_eq_true rfl)⟩ dX13_dealDeed_126 (fun v8 => ?_)
                refine dn_iast (pc := 129) s0 dX13_dealDeed_129 ?_
                refine dn_iinc (pc := 130) (l8 + 1) 5 dX13_dealDeed_130 rfl rfl (Nat.le_of_ble_eq_true rfl) (dnKp_nb 4 rfl rfl rfl (dnKp_of (lv2 := [(0, dnV b r0), (3, .int p3), (4, .int p4), (6, .int v5)]) [0, 1, 2, 3] rfl rfl)) ?_
                refine dn_goto (pc := 133) 79 dX13_dealDeed_133 rfl ?_
                refine dn_leaf ?_
                exact dn_lv [2, 3, 4, 5, 1, 0] rfl (hK79 (l8 + 1))
              refine dn_iload (pc := 79) 5 dX13_dealDeed_79 rfl ?_
              refine dn_iload (pc := 81) 4 dX13_dealDeed_81 rfl ?_
              refine dn_icmp_ge (pc := 83) 136 dX13_dealDeed_83 rfl (fun _ => ?_) (fun _ => ?_)
              · refine dn_leaf ?_
                exact dn_lv [0, 1, 2, 3, 4] rfl (hE79 ())
              · refine dn_aload_n (pc := 86) r0 0 dX13_dealDeed_86 rfl ?_
                refine dn_getR (pc := 87) r0 lRX13_26 dX13_dealDeed_87 (fun v9 => ?_)
                refine dn_iload (pc := 90) 3 dX13_dealDeed_90 rfl ?_
                refine dn_iald (pc := 92) v9 dX13_dealDeed_92 (fun v10 => ?_)
                refine dn_iload (pc := 93) 5 dX13_dealDeed_93 rfl ?_
                refine dn_iload_n (pc := 95) 1 dX13_dealDeed_95 rfl ?_
                refine dn_imul (pc := 96) dX13_dealDeed_96 ?_
                refine dn_isub (pc := 97) dX13_dealDeed_97 ?_
                refine dn_istore (pc := 98) dX13_dealDeed_98 (Nat.le_of_ble_eq_true rfl) (dnKp_nb 5 rfl rfl rfl (dnKp_of (lv2 := [(0, dnV b r0), (3, .int p3), (4, .int p4), (6, .int v5), (7, .int (((v7 + p3) - 1) / p3))]) [0, 1, 2, 3, 4] rfl rfl)) ?_
                refine dn_aload_n (pc := 100) r0 2 dX13_dealDeed_100 rfl ?_
                refine dn_getR (pc := 101) r0 lRX13_52 dX13_dealDeed_101 (fun v11 => ?_)
                refine dn_iload (pc := 104) 1 dX13_dealDeed_104 rfl ?_
                refine dn_aload_n (pc := 106) r0 2 dX13_dealDeed_106 rfl ?_
                refine dn_aload_n (pc := 107) r0 2 dX13_dealDeed_107 rfl ?_
                refine dn_getR (pc := 108) r0 lRX13_23 dX13_dealDeed_108 (fun v12 => ?_)
                refine dn_iload (pc := 111) 5 dX13_dealDeed_111 rfl ?_
                refine dn_iald (pc := 113) v12 dX13_dealDeed_113 (fun v13 => ?_)
                refine dn_iload (pc := 114) 0 dX13_dealDeed_114 rfl ?_
                refine dn_iload_n (pc := 116) 3 dX13_dealDeed_116 rfl ?_
                refine dn_icmp_ge (pc := 117) 125 dX13_dealDeed_117 rfl (fun _ => ?_) (fun _ => ?_)
                · refine dn_iload_n (pc := 125) 3 dX13_dealDeed_125 rfl ?_
                  exact dn_lv [2, 3, 4, 5, 6, 1] rfl (hj126 s79 v11 s79 r0 v13 p3)
                · refine dn_iload (pc := 120) 0 dX13_dealDeed_120 rfl ?_
                  refine dn_goto (pc := 122) 126 dX13_dealDeed_122 rfl ?_
                  exact dn_lv [2, 3, 4, 5, 6, 1] rfl (hj126 s79 v11 s79 r0 v13 (v10 - (s79 * p3)))
            · refine dn_iconst (pc := 136) (v := 0) dX13_dealDeed_136 rfl ?_
              refine dn_istore (pc := 137) dX13_dealDeed_137 (Nat.le_of_ble_eq_true rfl) (dnKp_nb 4 rfl rfl rfl (dnKp_of (lv2 := [(0, dnV b r0), (3, .int p3), (4, .int p4), (6, .int v5)]) [0, 1, 2, 3] rfl rfl)) ?_
              refine dn_assoc ?_
              refine dn_lv [2, 3, 4, 5, 1, 0] (lv2 := (fun s => [(0, dnV b r0), (3, .int p3), (4, .int p4), (6, .int v5), (7, .int (((v7 + p3) - 1) / p3)), (8, .int s)]) 0) rfl ?_
              refine dn_loopE (pc := 139) (body := fX13_dealDeed_b139 r0 p3 p4 v5 (((v7 + p3) - 1) / p3)) 178 (fun s => [(0, dnV b r0), (3, .int p3), (4, .int p4), (6, .int v5), (7, .int (((v7 + p3) - 1) / p3)), (8, .int s)]) (fun q => [(0, dnV b r0), (4, .int p4), (7, .int (((v7 + p3) - 1) / p3))]) (fun s139 K139 E139 hK139 hE139 => ?_) (fun q139 => ?_) 1000 0
              · unfold fX13_dealDeed_b139
                refine dn_iload (pc := 139) 5 dX13_dealDeed_139 rfl ?_
                refine dn_aload_n (pc := 141) r0 0 dX13_dealDeed_141 rfl ?_
                refine dn_getR (pc := 142) r0 lRX13_26 dX13_dealDeed_142 (fun v14 => ?_)
                refine dn_iload (pc := 145) 3 dX13_dealDeed_145 rfl ?_
                refine dn_iald (pc := 147) v14 dX13_dealDeed_147 (fun v15 => ?_)
                refine dn_icmp_ge (pc := 148) 178 dX13_dealDeed_148 rfl (fun _ => ?_) (fun _ => ?_)
                · refine dn_leaf ?_
                  exact dn_lv [0, 2, 4] rfl (hE139 ())
                · refine dn_aload_n (pc := 151) r0 0 dX13_dealDeed_151 rfl ?_
                  refine dn_iload (pc := 152) 3 dX13_dealDeed_152 rfl ?_
                  refine dn_iload (pc := 154) 5 dX13_dealDeed_154 rfl ?_
                  refine dn_aload_n (pc := 156) r0 0 dX13_dealDeed_156 rfl ?_
                  refine dn_getR (pc := 157) r0 lRX13_52 dX13_dealDeed_157 (fun v16 => ?_)
                  refine dn_iload (pc := 160) 5 dX13_dealDeed_160 rfl ?_
                  refine dn_iload_n (pc := 162) 1 dX13_dealDeed_162 rfl ?_
                  refine dn_idiv (pc := 163) dX13_dealDeed_163 ?_
                  refine dn_iald (pc := 164) v16 dX13_dealDeed_164 (fun v17 => ?_)
                  refine dn_iload (pc := 165) 5 dX13_dealDeed_165 rfl ?_
                  refine dn_iload_n (pc := 167) 1 dX13_dealDeed_167 rfl ?_
                  refine dn_irem (pc := 168) dX13_dealDeed_168 ?_
                  refine dn_callV0U (pc := 169) [.int v5, .int s139, .int v17, .int (s139 - s139 / p3 * p3)] r0 kRX13_280 (mX13_copies w x b r0 v5 s139 v17 (s139 - s139 / p3 * p3)) rfl rfl (Nat.le_of_ble_eq_true rfl) ⟨(Nat.le_of_ble_eq_true rfl), (Nat.le_of_ble_eq_true rfl)⟩ ⟨rfl, rfl, (Nat.le_of_ble_eq_true rfl), (Nat.le_of_ble_eq_true rfl)⟩ dX13_dealDeed_169 (fun _ => ?_)
                  refine dn_iinc (pc := 172) (s139 + 1) 5 dX13_dealDeed_172 rfl rfl (Nat.le_of_ble_eq_true rfl) (dnKp_nb 4 rfl rfl rfl (dnKp_of (lv2 := [(0, dnV b r0), (3, .int p3), (4, .int p4), (6, .int v5)]) [0, 1, 2, 3] rfl rfl)) ?_
                  refine dn_goto (pc := 175) 139 dX13_dealDeed_175 rfl ?_
                  refine dn_leaf ?_
                  exact dn_lv [2, 3, 4, 5, 1, 0] rfl (hK139 (s139 + 1))
              · refine dn_aload_n (pc := 178) r0 0 dX13_dealDeed_178 rfl ?_
                refine dn_iload (pc := 179) 1 dX13_dealDeed_179 rfl ?_
                refine dn_iload (pc := 181) 2 dX13_dealDeed_181 rfl ?_
                refine dn_callV0I (pc := 183) [.int p4, .int (((v7 + p3) - 1) / p3)] r0 kRX13_342 (mX13_comes w x b r0 p4 (((v7 + p3) - 1) / p3)) rfl rfl (Nat.le_of_ble_eq_true rfl) ⟨(Nat.le_of_ble_eq_true rfl), (Nat.le_of_ble_eq_true rfl)⟩ ⟨rfl, rfl, (Nat.le_of_ble_eq_true rfl), (Nat.le_of_ble_eq_true rfl)⟩ dX13_dealDeed_183 (fun v19 => ?_)
                exact dn_ret (Nat.le_of_ble_eq_true rfl) (Nat.le_of_ble_eq_true rfl) rfl dX13_dealDeed_186
          · refine dn_bipush (pc := 73) (v := -10) dX13_dealDeed_73 rfl ?_
            exact dn_ret (Nat.le_of_ble_eq_true rfl) (Nat.le_of_ble_eq_true rfl) rfl dX13_dealDeed_75
        · refine dn_iload (pc := 40) 0 dX13_dealDeed_40 rfl ?_
          exact dn_ret (Nat.le_of_ble_eq_true rfl) (Nat.le_of_ble_eq_true rfl) rfl dX13_dealDeed_42
      · refine dn_iconst (pc := 25) (v := -1) dX13_dealDeed_25 rfl ?_
        exact dn_ret (Nat.le_of_ble_eq_true rfl) (Nat.le_of_ble_eq_true rfl) rfl dX13_dealDeed_26
    · refine dn_iconst (pc := 25) (v := -1) dX13_dealDeed_25 rfl ?_
      exact dn_ret (Nat.le_of_ble_eq_true rfl) (Nat.le_of_ble_eq_true rfl) rfl dX13_dealDeed_26
  · refine dn_iconst (pc := 25) (v := -1) dX13_dealDeed_25 rfl ?_
    exact dn_ret (Nat.le_of_ble_eq_true rfl) (Nat.le_of_ble_eq_true rfl) rfl dX13_dealDeed_26
abbrev rmX13_deal : Room := { frames := 5, cells := 0, slots := 0, locals := 118 }
def fX13_deal (r0 : Option Nat) (p1 : Int32) (p2 : Int32) (p3 : Int32) (p4 : Int32) : dnM Int32 :=
  dnB (dnCv r0 11 (fX13_dealDeed r0 p1 p2 p3 p4)) fun v1 =>
  dnB (dnCv r0 11 (fX13_said r0 v1)) fun v2 =>
  dnP v2
abbrev jX13_deal (w : dnWd) (x : dnX) (b : Nat) := dnD w x b (fun _ => True) cX13_deal RX13 5 rmX13_deal "deal" eI
set_option maxHeartbeats 4000000 in
set_option maxRecDepth 100000 in
theorem mX13_deal (w : dnWd) (x : dnX) (b : Nat) (r0 : Option Nat) (p1 : Int32) (p2 : Int32) (p3 : Int32) (p4 : Int32) : dnMt w x b yX13_deal cX13_deal 5 (some .int) rmX13_deal eI [dnV b r0, .int p1, .int p2, .int p3, .int p4] (fX13_deal r0 p1 p2 p3 p4) := by
  have hlv : lv_args 0 [dnV b r0, .int p1, .int p2, .int p3, .int p4] = [(0, dnV b r0), (1, .int p1), (2, .int p2), (3, .int p3), (4, .int p4)] := by cases r0 <;> rfl
  refine dn_mt (by decide +kernel) roI (by cases r0 <;> exact (Nat.le_of_ble_eq_true rfl)) ?_
  rw [hlv]
  refine dn_top ?_
  show jX13_deal w x b 0 0 0 _ [] (dnB _ dnP)
  unfold fX13_deal
  refine dn_aload_n (pc := 0) r0 0 dX13_deal_0 rfl ?_
  refine dn_aload_n (pc := 1) r0 0 dX13_deal_1 rfl ?_
  refine dn_iload_n (pc := 2) 1 dX13_deal_2 rfl ?_
  refine dn_iload_n (pc := 3) 2 dX13_deal_3 rfl ?_
  refine dn_iload_n (pc := 4) 3 dX13_deal_4 rfl ?_
  refine dn_iload (pc := 5) 4 dX13_deal_5 rfl ?_
  refine dn_callV0I (pc := 7) [.int p1, .int p2, .int p3, .int p4] r0 kRX13_345 (mX13_dealDeed w x b r0 p1 p2 p3 p4) rfl rfl (Nat.le_of_ble_eq_true rfl) ⟨(Nat.le_of_ble_eq_true rfl), (Nat.le_of_ble_eq_true rfl)⟩ ⟨rfl, rfl, (Nat.le_of_ble_eq_true rfl), (Nat.le_of_ble_eq_true rfl)⟩ dX13_deal_7 (fun v1 => ?_)
  refine dn_callV0I (pc := 10) [.int v1] r0 kRX13_137 (mX13_said w x b r0 v1) rfl rfl (Nat.le_of_ble_eq_true rfl) ⟨(Nat.le_of_ble_eq_true rfl), (Nat.le_of_ble_eq_true rfl)⟩ ⟨rfl, rfl, (Nat.le_of_ble_eq_true rfl), (Nat.le_of_ble_eq_true rfl)⟩ dX13_deal_10 (fun v2 => ?_)
  exact dn_ret (Nat.le_of_ble_eq_true rfl) (Nat.le_of_ble_eq_true rfl) rfl dX13_deal_13
abbrev rmX13_packed : Room := { frames := 0, cells := 0, slots := 0, locals := 0 }
def fX13_packed (p0 : Int32) (p1 : Int32) (p2 : Int32) (p3 : Int32) : dnM Int64 :=
  dnP ((((((((p0 : Int32).toInt64) * 32) + ((p1 : Int32).toInt64)) * 32) + ((p2 : Int32).toInt64)) * 32) + ((p3 : Int32).toInt64))
abbrev jX13_packed (w : dnWd) (x : dnX) (b : Nat) := dnD w x b (fun _ => True) cX13_packed RX13 4 rmX13_packed "packed" eL
set_option maxHeartbeats 4000000 in
set_option maxRecDepth 100000 in
theorem mX13_packed (w : dnWd) (x : dnX) (b : Nat) (p0 : Int32) (p1 : Int32) (p2 : Int32) (p3 : Int32) : dnMt w x b yX13_packed cX13_packed 4 (some .long) rmX13_packed eL [.int p0, .int p1, .int p2, .int p3] (fX13_packed p0 p1 p2 p3) := by
  have hlv : lv_args 0 [.int p0, .int p1, .int p2, .int p3] = [(0, .int p0), (1, .int p1), (2, .int p2), (3, .int p3)] := by rfl
  refine dn_mt (by decide +kernel) roL (by exact (Nat.le_of_ble_eq_true rfl)) ?_
  rw [hlv]
  refine dn_top ?_
  show jX13_packed w x b 0 0 0 _ [] (dnB _ dnP)
  unfold fX13_packed
  refine dn_iload_n (pc := 0) 0 dX13_packed_0 rfl ?_
  refine dn_i2l (pc := 1) dX13_packed_1 ?_
  refine dn_ldc2 (pc := 2) kRX13_475 dX13_packed_2 ?_
  refine dn_lmul (pc := 5) dX13_packed_5 ?_
  refine dn_iload_n (pc := 6) 1 dX13_packed_6 rfl ?_
  refine dn_i2l (pc := 7) dX13_packed_7 ?_
  refine dn_ladd (pc := 8) dX13_packed_8 ?_
  refine dn_ldc2 (pc := 9) kRX13_475 dX13_packed_9 ?_
  refine dn_lmul (pc := 12) dX13_packed_12 ?_
  refine dn_iload_n (pc := 13) 2 dX13_packed_13 rfl ?_
  refine dn_i2l (pc := 14) dX13_packed_14 ?_
  refine dn_ladd (pc := 15) dX13_packed_15 ?_
  refine dn_ldc2 (pc := 16) kRX13_475 dX13_packed_16 ?_
  refine dn_lmul (pc := 19) dX13_packed_19 ?_
  refine dn_iload_n (pc := 20) 3 dX13_packed_20 rfl ?_
  refine dn_i2l (pc := 21) dX13_packed_21 ?_
  refine dn_ladd (pc := 22) dX13_packed_22 ?_
  exact dn_ret (Nat.le_of_ble_eq_true rfl) (Nat.le_of_ble_eq_true rfl) rfl dX13_packed_23
abbrev rmX13_laterDeed : Room := { frames := 1, cells := 0, slots := 0, locals := 23 }
def fX13_laterDeed (p0 : Int64) : dnM Int32 :=
  dnB (fX13_packed 6 12 9 16) fun v1 =>
  if ¬ (lg_cmp p0 v1) = 0 then
  (dnB (fX13_packed 18 15 12 12) fun v2 =>
  if ¬ (lg_cmp p0 v2) = 0 then
  (dnB (fX13_packed 15 18 4 5) fun v3 =>
  if ¬ (lg_cmp p0 ((32 * v3) + 18)) = 0 then
  (dnB (fX13_packed 0 1 4 4) fun v4 =>
  if ¬ (lg_cmp p0 v4) = 0 then
  (dnB (fX13_packed 6 12 1 20) fun v5 =>
  if ¬ (lg_cmp p0 v5) = 0 then
  (dnB (fX13_packed 4 5 1 12) fun v6 =>
  if ¬ (lg_cmp p0 v6) = 0 then
  (dnB (fX13_packed 20 21 18 14) fun v7 =>
  if ¬ (lg_cmp p0 v7) = 0 then
  (dnP (-9))
  else
  (dnP 13))
  else
  (dnP 12))
  else
  (dnP 11))
  else
  (dnP 10))
  else
  (dnP 9))
  else
  (dnP 8))
  else
  (dnP 7)
abbrev jX13_laterDeed (w : dnWd) (x : dnX) (b : Nat) := dnD w x b (fun _ => True) cX13_laterDeed RX13 2 rmX13_laterDeed "laterDeed" eI
set_option maxHeartbeats 4000000 in
set_option maxRecDepth 100000 in
theorem mX13_laterDeed (w : dnWd) (x : dnX) (b : Nat) (p0 : Int64) : dnMt w x b yX13_laterDeed cX13_laterDeed 2 (some .int) rmX13_laterDeed eI [.long p0] (fX13_laterDeed p0) := by
  have hlv : lv_args 0 [.long p0] = [(0, .long p0)] := by rfl
  refine dn_mt (by decide +kernel) roI (by exact (Nat.le_of_ble_eq_true rfl)) ?_
  rw [hlv]
  refine dn_top ?_
  show jX13_laterDeed w x b 0 0 0 _ [] (dnB _ dnP)
  unfold fX13_laterDeed
  refine dn_lload_n (pc := 0) 0 dX13_laterDeed_0 rfl ?_
  refine dn_bipush (pc := 1) (v := 6) dX13_laterDeed_1 rfl ?_
  refine dn_bipush (pc := 3) (v := 12) dX13_laterDeed_3 rfl ?_
  refine dn_bipush (pc := 5) (v := 9) dX13_laterDeed_5 rfl ?_
  refine dn_bipush (pc := 7) (v := 16) dX13_laterDeed_7 rfl ?_
  refine dn_callS0L (pc := 9) [.int 6, .int 12, .int 9, .int 16]  kRX13_479 (mX13_packed w x b 6 12 9 16) rfl rfl (Nat.le_of_ble_eq_true rfl) ⟨(Nat.le_of_ble_eq_true rfl), (Nat.le_of_ble_eq_true rfl)⟩ ⟨rfl, rfl, (Nat.le_of_ble_eq_true rfl), (Nat.le_of_ble_eq_true rfl)⟩ dX13_laterDeed_9 (fun v1 => ?_)
  refine dn_lcmp (pc := 12) dX13_laterDeed_12 ?_
  refine dn_if_ne (pc := 13) 19 dX13_laterDeed_13 rfl (fun _ => ?_) (fun _ => ?_)
  · refine dn_lload_n (pc := 19) 0 dX13_laterDeed_19 rfl ?_
    refine dn_bipush (pc := 20) (v := 18) dX13_laterDeed_20 rfl ?_
    refine dn_bipush (pc := 22) (v := 15) dX13_laterDeed_22 rfl ?_
    refine dn_bipush (pc := 24) (v := 12) dX13_laterDeed_24 rfl ?_
    refine dn_bipush (pc := 26) (v := 12) dX13_laterDeed_26 rfl ?_
    refine dn_callS0L (pc := 28) [.int 18, .int 15, .int 12, .int 12]  kRX13_479 (mX13_packed w x b 18 15 12 12) rfl rfl (Nat.le_of_ble_eq_true rfl) ⟨(Nat.le_of_ble_eq_true rfl), (Nat.le_of_ble_eq_true rfl)⟩ ⟨rfl, rfl, (Nat.le_of_ble_eq_true rfl), (Nat.le_of_ble_eq_true rfl)⟩ dX13_laterDeed_28 (fun v2 => ?_)
    refine dn_lcmp (pc := 31) dX13_laterDeed_31 ?_
    refine dn_if_ne (pc := 32) 38 dX13_laterDeed_32 rfl (fun _ => ?_) (fun _ => ?_)
    · refine dn_lload_n (pc := 38) 0 dX13_laterDeed_38 rfl ?_
      refine dn_ldc2 (pc := 39) kRX13_475 dX13_laterDeed_39 ?_
      refine dn_bipush (pc := 42) (v := 15) dX13_laterDeed_42 rfl ?_
      refine dn_bipush (pc := 44) (v := 18) dX13_laterDeed_44 rfl ?_
      refine dn_iconst (pc := 46) (v := 4) dX13_laterDeed_46 rfl ?_
      refine dn_iconst (pc := 47) (v := 5) dX13_laterDeed_47 rfl ?_
      refine dn_callS0L (pc := 48) [.int 15, .int 18, .int 4, .int 5]  kRX13_479 (mX13_packed w x b 15 18 4 5) rfl rfl (Nat.le_of_ble_eq_true rfl) ⟨(Nat.le_of_ble_eq_true rfl), (Nat.le_of_ble_eq_true rfl)⟩ ⟨rfl, rfl, (Nat.le_of_ble_eq_true rfl), (Nat.le_of_ble_eq_true rfl)⟩ dX13_laterDeed_48 (fun v3 => ?_)
      refine dn_lmul (pc := 51) dX13_laterDeed_51 ?_
      refine dn_ldc2 (pc := 52) kRX13_488 dX13_laterDeed_52 ?_
      refine dn_ladd (pc := 55) dX13_laterDeed_55 ?_
      refine dn_lcmp (pc := 56) dX13_laterDeed_56 ?_
      refine dn_if_ne (pc := 57) 63 dX13_laterDeed_57 rfl (fun _ => ?_) (fun _ => ?_)
      · refine dn_lload_n (pc := 63) 0 dX13_laterDeed_63 rfl ?_
        refine dn_iconst (pc := 64) (v := 0) dX13_laterDeed_64 rfl ?_
        refine dn_iconst (pc := 65) (v := 1) dX13_laterDeed_65 rfl ?_
        refine dn_iconst (pc := 66) (v := 4) dX13_laterDeed_66 rfl ?_
        refine dn_iconst (pc := 67) (v := 4) dX13_laterDeed_67 rfl ?_
        refine dn_callS0L (pc := 68) [.int 0, .int 1, .int 4, .int 4]  kRX13_479 (mX13_packed w x b 0 1 4 4) rfl rfl (Nat.le_of_ble_eq_true rfl) ⟨(Nat.le_of_ble_eq_true rfl), (Nat.le_of_ble_eq_true rfl)⟩ ⟨rfl, rfl, (Nat.le_of_ble_eq_true rfl), (Nat.le_of_ble_eq_true rfl)⟩ dX13_laterDeed_68 (fun v4 => ?_)
        refine dn_lcmp (pc := 71) dX13_laterDeed_71 ?_
        refine dn_if_ne (pc := 72) 78 dX13_laterDeed_72 rfl (fun _ => ?_) (fun _ => ?_)
        · refine dn_lload_n (pc := 78) 0 dX13_laterDeed_78 rfl ?_
          refine dn_bipush (pc := 79) (v := 6) dX13_laterDeed_79 rfl ?_
          refine dn_bipush (pc := 81) (v := 12) dX13_laterDeed_81 rfl ?_
          refine dn_iconst (pc := 83) (v := 1) dX13_laterDeed_83 rfl ?_
          refine dn_bipush (pc := 84) (v := 20) dX13_laterDeed_84 rfl ?_
          refine dn_callS0L (pc := 86) [.int 6, .int 12, .int 1, .int 20]  kRX13_479 (mX13_packed w x b 6 12 1 20) rfl rfl (Nat.le_of_ble_eq_true rfl) ⟨(Nat.le_of_ble_eq_true rfl), (Nat.le_of_ble_eq_true rfl)⟩ ⟨rfl, rfl, (Nat.le_of_ble_eq_true rfl), (Nat.le_of_ble_eq_true rfl)⟩ dX13_laterDeed_86 (fun v5 => ?_)
          refine dn_lcmp (pc := 89) dX13_laterDeed_89 ?_
          refine dn_if_ne (pc := 90) 96 dX13_laterDeed_90 rfl (fun _ => ?_) (fun _ => ?_)
          · refine dn_lload_n (pc := 96) 0 dX13_laterDeed_96 rfl ?_
            refine dn_iconst (pc := 97) (v := 4) dX13_laterDeed_97 rfl ?_
            refine dn_iconst (pc := 98) (v := 5) dX13_laterDeed_98 rfl ?_
            refine dn_iconst (pc := 99) (v := 1) dX13_laterDeed_99 rfl ?_
            refine dn_bipush (pc := 100) (v := 12) dX13_laterDeed_100 rfl ?_
            refine dn_callS0L (pc := 102) [.int 4, .int 5, .int 1, .int 12]  kRX13_479 (mX13_packed w x b 4 5 1 12) rfl rfl (Nat.le_of_ble_eq_true rfl) ⟨(Nat.le_of_ble_eq_true rfl), (Nat.le_of_ble_eq_true rfl)⟩ ⟨rfl, rfl, (Nat.le_of_ble_eq_true rfl), (Nat.le_of_ble_eq_true rfl)⟩ dX13_laterDeed_102 (fun v6 => ?_)
            refine dn_lcmp (pc := 105) dX13_laterDeed_105 ?_
            refine dn_if_ne (pc := 106) 112 dX13_laterDeed_106 rfl (fun _ => ?_) (fun _ => ?_)
            · refine dn_lload_n (pc := 112) 0 dX13_laterDeed_112 rfl ?_
              refine dn_bipush (pc := 113) (v := 20) dX13_laterDeed_113 rfl ?_
              refine dn_bipush (pc := 115) (v := 21) dX13_laterDeed_115 rfl ?_
              refine dn_bipush (pc := 117) (v := 18) dX13_laterDeed_117 rfl ?_
              refine dn_bipush (pc := 119) (v := 14) dX13_laterDeed_119 rfl ?_
              refine dn_callS0L (pc := 121) [.int 20, .int 21, .int 18, .int 14]  kRX13_479 (mX13_packed w x b 20 21 18 14) rfl rfl (Nat.le_of_ble_eq_true rfl) ⟨(Nat.le_of_ble_eq_true rfl), (Nat.le_of_ble_eq_true rfl)⟩ ⟨rfl, rfl, (Nat.le_of_ble_eq_true rfl), (Nat.le_of_ble_eq_true rfl)⟩ dX13_laterDeed_121 (fun v7 => ?_)
              refine dn_lcmp (pc := 124) dX13_laterDeed_124 ?_
              refine dn_if_ne (pc := 125) 133 dX13_laterDeed_125 rfl (fun _ => ?_) (fun _ => ?_)
              · refine dn_bipush (pc := 133) (v := -9) dX13_laterDeed_133 rfl ?_
                exact dn_ret (Nat.le_of_ble_eq_true rfl) (Nat.le_of_ble_eq_true rfl) rfl dX13_laterDeed_135
              · refine dn_bipush (pc := 128) (v := 13) dX13_laterDeed_128 rfl ?_
                refine dn_goto (pc := 130) 135 dX13_laterDeed_130 rfl ?_
                exact dn_ret (Nat.le_of_ble_eq_true rfl) (Nat.le_of_ble_eq_true rfl) rfl dX13_laterDeed_135
            · refine dn_bipush (pc := 109) (v := 12) dX13_laterDeed_109 rfl ?_
              exact dn_ret (Nat.le_of_ble_eq_true rfl) (Nat.le_of_ble_eq_true rfl) rfl dX13_laterDeed_111
          · refine dn_bipush (pc := 93) (v := 11) dX13_laterDeed_93 rfl ?_
            exact dn_ret (Nat.le_of_ble_eq_true rfl) (Nat.le_of_ble_eq_true rfl) rfl dX13_laterDeed_95
        · refine dn_bipush (pc := 75) (v := 10) dX13_laterDeed_75 rfl ?_
          exact dn_ret (Nat.le_of_ble_eq_true rfl) (Nat.le_of_ble_eq_true rfl) rfl dX13_laterDeed_77
      · refine dn_bipush (pc := 60) (v := 9) dX13_laterDeed_60 rfl ?_
        exact dn_ret (Nat.le_of_ble_eq_true rfl) (Nat.le_of_ble_eq_true rfl) rfl dX13_laterDeed_62
    · refine dn_bipush (pc := 35) (v := 8) dX13_laterDeed_35 rfl ?_
      exact dn_ret (Nat.le_of_ble_eq_true rfl) (Nat.le_of_ble_eq_true rfl) rfl dX13_laterDeed_37
  · refine dn_bipush (pc := 16) (v := 7) dX13_laterDeed_16 rfl ?_
    exact dn_ret (Nat.le_of_ble_eq_true rfl) (Nat.le_of_ble_eq_true rfl) rfl dX13_laterDeed_18
abbrev rmX13_deedOf : Room := { frames := 2, cells := 0, slots := 0, locals := 44 }
def fX13_deedOf (p0 : Int64) : dnM Int32 :=
  dnB (fX13_packed 0 18 15 23) fun v1 =>
  if ¬ (lg_cmp p0 v1) = 0 then
  (dnB (fX13_packed 4 18 15 16) fun v2 =>
  if ¬ (lg_cmp p0 v2) = 0 then
  (dnB (fX13_packed 19 23 1 16) fun v3 =>
  if ¬ (lg_cmp p0 v3) = 0 then
  (dnB (fX13_packed 19 8 1 18) fun v4 =>
  if ¬ (lg_cmp p0 ((32 * v4) + 5)) = 0 then
  (dnB (fX13_packed 0 3 21 20) fun v5 =>
  if ¬ (lg_cmp p0 v5) = 0 then
  (dnB (fX13_packed 3 1 19 20) fun v6 =>
  if ¬ (lg_cmp p0 v6) = 0 then
  (dnB (fX13_packed 10 15 9 14) fun v7 =>
  if ¬ (lg_cmp p0 v7) = 0 then
  (dnB (fX13_laterDeed p0) fun v8 =>
  dnP v8)
  else
  (dnP 6))
  else
  (dnP 5))
  else
  (dnP 4))
  else
  (dnP 3))
  else
  (dnP 2))
  else
  (dnP 1))
  else
  (dnP 0)
abbrev jX13_deedOf (w : dnWd) (x : dnX) (b : Nat) := dnD w x b (fun _ => True) cX13_deedOf RX13 2 rmX13_deedOf "deedOf" eI
set_option maxHeartbeats 4000000 in
set_option maxRecDepth 100000 in
theorem mX13_deedOf (w : dnWd) (x : dnX) (b : Nat) (p0 : Int64) : dnMt w x b yX13_deedOf cX13_deedOf 2 (some .int) rmX13_deedOf eI [.long p0] (fX13_deedOf p0) := by
  have hlv : lv_args 0 [.long p0] = [(0, .long p0)] := by rfl
  refine dn_mt (by decide +kernel) roI (by exact (Nat.le_of_ble_eq_true rfl)) ?_
  rw [hlv]
  refine dn_top ?_
  show jX13_deedOf w x b 0 0 0 _ [] (dnB _ dnP)
  unfold fX13_deedOf
  refine dn_lload_n (pc := 0) 0 dX13_deedOf_0 rfl ?_
  refine dn_iconst (pc := 1) (v := 0) dX13_deedOf_1 rfl ?_
  refine dn_bipush (pc := 2) (v := 18) dX13_deedOf_2 rfl ?_
  refine dn_bipush (pc := 4) (v := 15) dX13_deedOf_4 rfl ?_
  refine dn_bipush (pc := 6) (v := 23) dX13_deedOf_6 rfl ?_
  refine dn_callS0L (pc := 8) [.int 0, .int 18, .int 15, .int 23]  kRX13_479 (mX13_packed w x b 0 18 15 23) rfl rfl (Nat.le_of_ble_eq_true rfl) ⟨(Nat.le_of_ble_eq_true rfl), (Nat.le_of_ble_eq_true rfl)⟩ ⟨rfl, rfl, (Nat.le_of_ble_eq_true rfl), (Nat.le_of_ble_eq_true rfl)⟩ dX13_deedOf_8 (fun v1 => ?_)
  refine dn_lcmp (pc := 11) dX13_deedOf_11 ?_
  refine dn_if_ne (pc := 12) 17 dX13_deedOf_12 rfl (fun _ => ?_) (fun _ => ?_)
  · refine dn_lload_n (pc := 17) 0 dX13_deedOf_17 rfl ?_
    refine dn_iconst (pc := 18) (v := 4) dX13_deedOf_18 rfl ?_
    refine dn_bipush (pc := 19) (v := 18) dX13_deedOf_19 rfl ?_
    refine dn_bipush (pc := 21) (v := 15) dX13_deedOf_21 rfl ?_
    refine dn_bipush (pc := 23) (v := 16) dX13_deedOf_23 rfl ?_
    refine dn_callS0L (pc := 25) [.int 4, .int 18, .int 15, .int 16]  kRX13_479 (mX13_packed w x b 4 18 15 16) rfl rfl (Nat.le_of_ble_eq_true rfl) ⟨(Nat.le_of_ble_eq_true rfl), (Nat.le_of_ble_eq_true rfl)⟩ ⟨rfl, rfl, (Nat.le_of_ble_eq_true rfl), (Nat.le_of_ble_eq_true rfl)⟩ dX13_deedOf_25 (fun v2 => ?_)
    refine dn_lcmp (pc := 28) dX13_deedOf_28 ?_
    refine dn_if_ne (pc := 29) 34 dX13_deedOf_29 rfl (fun _ => ?_) (fun _ => ?_)
    · refine dn_lload_n (pc := 34) 0 dX13_deedOf_34 rfl ?_
      refine dn_bipush (pc := 35) (v := 19) dX13_deedOf_35 rfl ?_
      refine dn_bipush (pc := 37) (v := 23) dX13_deedOf_37 rfl ?_
      refine dn_iconst (pc := 39) (v := 1) dX13_deedOf_39 rfl ?_
      refine dn_bipush (pc := 40) (v := 16) dX13_deedOf_40 rfl ?_
      refine dn_callS0L (pc := 42) [.int 19, .int 23, .int 1, .int 16]  kRX13_479 (mX13_packed w x b 19 23 1 16) rfl rfl (Nat.le_of_ble_eq_true rfl) ⟨(Nat.le_of_ble_eq_true rfl), (Nat.le_of_ble_eq_true rfl)⟩ ⟨rfl, rfl, (Nat.le_of_ble_eq_true rfl), (Nat.le_of_ble_eq_true rfl)⟩ dX13_deedOf_42 (fun v3 => ?_)
      refine dn_lcmp (pc := 45) dX13_deedOf_45 ?_
      refine dn_if_ne (pc := 46) 51 dX13_deedOf_46 rfl (fun _ => ?_) (fun _ => ?_)
      · refine dn_lload_n (pc := 51) 0 dX13_deedOf_51 rfl ?_
        refine dn_ldc2 (pc := 52) kRX13_475 dX13_deedOf_52 ?_
        refine dn_bipush (pc := 55) (v := 19) dX13_deedOf_55 rfl ?_
        refine dn_bipush (pc := 57) (v := 8) dX13_deedOf_57 rfl ?_
        refine dn_iconst (pc := 59) (v := 1) dX13_deedOf_59 rfl ?_
        refine dn_bipush (pc := 60) (v := 18) dX13_deedOf_60 rfl ?_
        refine dn_callS0L (pc := 62) [.int 19, .int 8, .int 1, .int 18]  kRX13_479 (mX13_packed w x b 19 8 1 18) rfl rfl (Nat.le_of_ble_eq_true rfl) ⟨(Nat.le_of_ble_eq_true rfl), (Nat.le_of_ble_eq_true rfl)⟩ ⟨rfl, rfl, (Nat.le_of_ble_eq_true rfl), (Nat.le_of_ble_eq_true rfl)⟩ dX13_deedOf_62 (fun v4 => ?_)
        refine dn_lmul (pc := 65) dX13_deedOf_65 ?_
        refine dn_ldc2 (pc := 66) kRX13_482 dX13_deedOf_66 ?_
        refine dn_ladd (pc := 69) dX13_deedOf_69 ?_
        refine dn_lcmp (pc := 70) dX13_deedOf_70 ?_
        refine dn_if_ne (pc := 71) 76 dX13_deedOf_71 rfl (fun _ => ?_) (fun _ => ?_)
        · refine dn_lload_n (pc := 76) 0 dX13_deedOf_76 rfl ?_
          refine dn_iconst (pc := 77) (v := 0) dX13_deedOf_77 rfl ?_
          refine dn_iconst (pc := 78) (v := 3) dX13_deedOf_78 rfl ?_
          refine dn_bipush (pc := 79) (v := 21) dX13_deedOf_79 rfl ?_
          refine dn_bipush (pc := 81) (v := 20) dX13_deedOf_81 rfl ?_
          refine dn_callS0L (pc := 83) [.int 0, .int 3, .int 21, .int 20]  kRX13_479 (mX13_packed w x b 0 3 21 20) rfl rfl (Nat.le_of_ble_eq_true rfl) ⟨(Nat.le_of_ble_eq_true rfl), (Nat.le_of_ble_eq_true rfl)⟩ ⟨rfl, rfl, (Nat.le_of_ble_eq_true rfl), (Nat.le_of_ble_eq_true rfl)⟩ dX13_deedOf_83 (fun v5 => ?_)
          refine dn_lcmp (pc := 86) dX13_deedOf_86 ?_
          refine dn_if_ne (pc := 87) 92 dX13_deedOf_87 rfl (fun _ => ?_) (fun _ => ?_)
          · refine dn_lload_n (pc := 92) 0 dX13_deedOf_92 rfl ?_
            refine dn_iconst (pc := 93) (v := 3) dX13_deedOf_93 rfl ?_
            refine dn_iconst (pc := 94) (v := 1) dX13_deedOf_94 rfl ?_
            refine dn_bipush (pc := 95) (v := 19) dX13_deedOf_95 rfl ?_
            refine dn_bipush (pc := 97) (v := 20) dX13_deedOf_97 rfl ?_
            refine dn_callS0L (pc := 99) [.int 3, .int 1, .int 19, .int 20]  kRX13_479 (mX13_packed w x b 3 1 19 20) rfl rfl (Nat.le_of_ble_eq_true rfl) ⟨(Nat.le_of_ble_eq_true rfl), (Nat.le_of_ble_eq_true rfl)⟩ ⟨rfl, rfl, (Nat.le_of_ble_eq_true rfl), (Nat.le_of_ble_eq_true rfl)⟩ dX13_deedOf_99 (fun v6 => ?_)
            refine dn_lcmp (pc := 102) dX13_deedOf_102 ?_
            refine dn_if_ne (pc := 103) 108 dX13_deedOf_103 rfl (fun _ => ?_) (fun _ => ?_)
            · refine dn_lload_n (pc := 108) 0 dX13_deedOf_108 rfl ?_
              refine dn_bipush (pc := 109) (v := 10) dX13_deedOf_109 rfl ?_
              refine dn_bipush (pc := 111) (v := 15) dX13_deedOf_111 rfl ?_
              refine dn_bipush (pc := 113) (v := 9) dX13_deedOf_113 rfl ?_
              refine dn_bipush (pc := 115) (v := 14) dX13_deedOf_115 rfl ?_
              refine dn_callS0L (pc := 117) [.int 10, .int 15, .int 9, .int 14]  kRX13_479 (mX13_packed w x b 10 15 9 14) rfl rfl (Nat.le_of_ble_eq_true rfl) ⟨(Nat.le_of_ble_eq_true rfl), (Nat.le_of_ble_eq_true rfl)⟩ ⟨rfl, rfl, (Nat.le_of_ble_eq_true rfl), (Nat.le_of_ble_eq_true rfl)⟩ dX13_deedOf_117 (fun v7 => ?_)
              refine dn_lcmp (pc := 120) dX13_deedOf_120 ?_
              refine dn_if_ne (pc := 121) 127 dX13_deedOf_121 rfl (fun _ => ?_) (fun _ => ?_)
              · refine dn_lload_n (pc := 127) 0 dX13_deedOf_127 rfl ?_
                refine dn_callS0I (pc := 128) [.long p0]  kRX13_484 (mX13_laterDeed w x b p0) rfl rfl (Nat.le_of_ble_eq_true rfl) ⟨(Nat.le_of_ble_eq_true rfl), (Nat.le_of_ble_eq_true rfl)⟩ ⟨rfl, rfl, (Nat.le_of_ble_eq_true rfl), (Nat.le_of_ble_eq_true rfl)⟩ dX13_deedOf_128 (fun v8 => ?_)
                exact dn_ret (Nat.le_of_ble_eq_true rfl) (Nat.le_of_ble_eq_true rfl) rfl dX13_deedOf_131
              · refine dn_bipush (pc := 124) (v := 6) dX13_deedOf_124 rfl ?_
                exact dn_ret (Nat.le_of_ble_eq_true rfl) (Nat.le_of_ble_eq_true rfl) rfl dX13_deedOf_126
            · refine dn_iconst (pc := 106) (v := 5) dX13_deedOf_106 rfl ?_
              exact dn_ret (Nat.le_of_ble_eq_true rfl) (Nat.le_of_ble_eq_true rfl) rfl dX13_deedOf_107
          · refine dn_iconst (pc := 90) (v := 4) dX13_deedOf_90 rfl ?_
            exact dn_ret (Nat.le_of_ble_eq_true rfl) (Nat.le_of_ble_eq_true rfl) rfl dX13_deedOf_91
        · refine dn_iconst (pc := 74) (v := 3) dX13_deedOf_74 rfl ?_
          exact dn_ret (Nat.le_of_ble_eq_true rfl) (Nat.le_of_ble_eq_true rfl) rfl dX13_deedOf_75
      · refine dn_iconst (pc := 49) (v := 2) dX13_deedOf_49 rfl ?_
        exact dn_ret (Nat.le_of_ble_eq_true rfl) (Nat.le_of_ble_eq_true rfl) rfl dX13_deedOf_50
    · refine dn_iconst (pc := 32) (v := 1) dX13_deedOf_32 rfl ?_
      exact dn_ret (Nat.le_of_ble_eq_true rfl) (Nat.le_of_ble_eq_true rfl) rfl dX13_deedOf_33
  · refine dn_iconst (pc := 15) (v := 0) dX13_deedOf_15 rfl ?_
    exact dn_ret (Nat.le_of_ble_eq_true rfl) (Nat.le_of_ble_eq_true rfl) rfl dX13_deedOf_16
abbrev rmX13_holdsOf : Room := { frames := 1, cells := 0, slots := 0, locals := 22 }
def fX13_holdsOf (r0 : Option Nat) (p1 : Int32) (p2 : Int32) : dnM Int32 :=
  dnB (dnCv r0 11 (fX13_held r0 p1 p2)) fun v1 =>
  if v1 < 0 then
  (if ¬ v1 = (-2) then
  (if ¬ v1 = (-3) then
  (dnP 14)
  else
  (dnP 13))
  else
  (dnP 12))
  else
  (dnB (dnGR r0 11 6) fun v2 =>
  dnB (dnAI v2 100 v1) fun v3 =>
  dnP v3)
abbrev jX13_holdsOf (w : dnWd) (x : dnX) (b : Nat) := dnD w x b (fun _ => True) cX13_holdsOf RX13 4 rmX13_holdsOf "holdsOf" eI
set_option maxHeartbeats 4000000 in
set_option maxRecDepth 100000 in
theorem mX13_holdsOf (w : dnWd) (x : dnX) (b : Nat) (r0 : Option Nat) (p1 : Int32) (p2 : Int32) : dnMt w x b yX13_holdsOf cX13_holdsOf 4 (some .int) rmX13_holdsOf eI [dnV b r0, .int p1, .int p2] (fX13_holdsOf r0 p1 p2) := by
  have hlv : lv_args 0 [dnV b r0, .int p1, .int p2] = [(0, dnV b r0), (1, .int p1), (2, .int p2)] := by cases r0 <;> rfl
  refine dn_mt (by decide +kernel) roI (by cases r0 <;> exact (Nat.le_of_ble_eq_true rfl)) ?_
  rw [hlv]
  refine dn_top ?_
  show jX13_holdsOf w x b 0 0 0 _ [] (dnB _ dnP)
  unfold fX13_holdsOf
  refine dn_aload_n (pc := 0) r0 0 dX13_holdsOf_0 rfl ?_
  refine dn_iload_n (pc := 1) 1 dX13_holdsOf_1 rfl ?_
  refine dn_iload_n (pc := 2) 2 dX13_holdsOf_2 rfl ?_
  refine dn_callV0I (pc := 3) [.int p1, .int p2] r0 kRX13_128 (mX13_held w x b r0 p1 p2) rfl rfl (Nat.le_of_ble_eq_true rfl) ⟨(Nat.le_of_ble_eq_true rfl), (Nat.le_of_ble_eq_true rfl)⟩ ⟨rfl, rfl, (Nat.le_of_ble_eq_true rfl), (Nat.le_of_ble_eq_true rfl)⟩ dX13_holdsOf_3 (fun v1 => ?_)
  refine dn_istore_n (pc := 6) dX13_holdsOf_6 (Nat.le_of_ble_eq_true rfl) (dnKp_of (lv2 := [(0, dnV b r0)]) [0] rfl rfl) ?_
  refine dn_iload_n (pc := 7) 0 dX13_holdsOf_7 rfl ?_
  refine dn_if_lt (pc := 8) 20 dX13_holdsOf_8 rfl (fun _ => ?_) (fun _ => ?_)
  · refine dn_iload_n (pc := 20) 0 dX13_holdsOf_20 rfl ?_
    refine dn_bipush (pc := 21) (v := -2) dX13_holdsOf_21 rfl ?_
    refine dn_icmp_ne (pc := 23) 31 dX13_holdsOf_23 rfl (fun _ => ?_) (fun _ => ?_)
    · refine dn_iload_n (pc := 31) 0 dX13_holdsOf_31 rfl ?_
      refine dn_bipush (pc := 32) (v := -3) dX13_holdsOf_32 rfl ?_
      refine dn_icmp_ne (pc := 34) 42 dX13_holdsOf_34 rfl (fun _ => ?_) (fun _ => ?_)
      · refine dn_bipush (pc := 42) (v := 14) dX13_holdsOf_42 rfl ?_
        exact dn_ret (Nat.le_of_ble_eq_true rfl) (Nat.le_of_ble_eq_true rfl) rfl dX13_holdsOf_44
      · refine dn_bipush (pc := 37) (v := 13) dX13_holdsOf_37 rfl ?_
        refine dn_goto (pc := 39) 44 dX13_holdsOf_39 rfl ?_
        exact dn_ret (Nat.le_of_ble_eq_true rfl) (Nat.le_of_ble_eq_true rfl) rfl dX13_holdsOf_44
    · refine dn_bipush (pc := 26) (v := 12) dX13_holdsOf_26 rfl ?_
      refine dn_goto (pc := 28) 44 dX13_holdsOf_28 rfl ?_
      exact dn_ret (Nat.le_of_ble_eq_true rfl) (Nat.le_of_ble_eq_true rfl) rfl dX13_holdsOf_44
  · refine dn_aload_n (pc := 11) r0 1 dX13_holdsOf_11 rfl ?_
    refine dn_getR (pc := 12) r0 lRX13_23 dX13_holdsOf_12 (fun v2 => ?_)
    refine dn_iload_n (pc := 15) 0 dX13_holdsOf_15 rfl ?_
    refine dn_iald (pc := 16) v2 dX13_holdsOf_16 (fun v3 => ?_)
    refine dn_goto (pc := 17) 44 dX13_holdsOf_17 rfl ?_
    exact dn_ret (Nat.le_of_ble_eq_true rfl) (Nat.le_of_ble_eq_true rfl) rfl dX13_holdsOf_44
abbrev rmX13_toldOf : Room := { frames := 0, cells := 0, slots := 0, locals := 0 }
def fX13_toldOf_j18 (l0 : Option Nat) : dnM Int64 :=
  dnB (dnGD l0 11 14) fun v1 =>
  dnB (dnN64 (FP.dmul 4620693217682128896 v1)) fun v2 =>
  dnP (FP.d2l v2)
def fX13_toldOf (r0 : Option Nat) : dnM Int64 :=
  dnB (dnGI r0 11 12) fun v3 =>
  if v3 = 6 then
  (fX13_toldOf_j18 r0)
  else
  (dnB (dnGI r0 11 12) fun v4 =>
  if ¬ v4 = 7 then
  (dnB (dnGL r0 11 13) fun v5 =>
  dnP v5)
  else
  (fX13_toldOf_j18 r0))
abbrev jX13_toldOf (w : dnWd) (x : dnX) (b : Nat) := dnD w x b (fun _ => True) cX13_toldOf RX13 1 rmX13_toldOf "toldOf" eL
set_option maxHeartbeats 4000000 in
set_option maxRecDepth 100000 in
theorem mX13_toldOf (w : dnWd) (x : dnX) (b : Nat) (r0 : Option Nat) : dnMt w x b yX13_toldOf cX13_toldOf 1 (some .long) rmX13_toldOf eL [dnV b r0] (fX13_toldOf r0) := by
  have hlv : lv_args 0 [dnV b r0] = [(0, dnV b r0)] := by cases r0 <;> rfl
  refine dn_mt (by decide +kernel) roL (by cases r0 <;> exact (Nat.le_of_ble_eq_true rfl)) ?_
  rw [hlv]
  refine dn_top ?_
  show jX13_toldOf w x b 0 0 0 _ [] (dnB _ dnP)
  unfold fX13_toldOf
  have hj18 : ∀ (l0 : Option Nat), jX13_toldOf w x b 18 0 0 [(0, dnV b l0)] [] (dnB (fX13_toldOf_j18 l0) dnP) := by
    intro l0
    unfold fX13_toldOf_j18
    refine dn_ldc2d (pc := 18) kRX13_201 dX13_toldOf_18 ?_
    refine dn_aload_n (pc := 21) l0 0 dX13_toldOf_21 rfl ?_
    refine dn_getD (pc := 22) l0 lRX13_193 dX13_toldOf_22 (fun v1 => ?_)
    refine dn_dmul (pc := 25) dX13_toldOf_25 (fun v2 => ?_)
    refine dn_d2l (pc := 26) dX13_toldOf_26 ?_
    refine dn_goto (pc := 27) 34 dX13_toldOf_27 rfl ?_
    exact dn_ret (Nat.le_of_ble_eq_true rfl) (Nat.le_of_ble_eq_true rfl) rfl dX13_toldOf_34
  refine dn_aload_n (pc := 0) r0 0 dX13_toldOf_0 rfl ?_
  refine dn_getI (pc := 1) r0 lRX13_190 dX13_toldOf_1 (fun v3 => ?_)
  refine dn_bipush (pc := 4) (v := 6) dX13_toldOf_4 rfl ?_
  refine dn_icmp_eq (pc := 6) 18 dX13_toldOf_6 rfl (fun _ => ?_) (fun _ => ?_)
  · exact dn_lv [0] rfl (hj18 r0)
  · refine dn_aload_n (pc := 9) r0 0 dX13_toldOf_9 rfl ?_
    refine dn_getI (pc := 10) r0 lRX13_190 dX13_toldOf_10 (fun v4 => ?_)
    refine dn_bipush (pc := 13) (v := 7) dX13_toldOf_13 rfl ?_
    refine dn_icmp_ne (pc := 15) 30 dX13_toldOf_15 rfl (fun _ => ?_) (fun _ => ?_)
    · refine dn_aload_n (pc := 30) r0 0 dX13_toldOf_30 rfl ?_
      refine dn_getL (pc := 31) r0 lRX13_197 dX13_toldOf_31 (fun v5 => ?_)
      exact dn_ret (Nat.le_of_ble_eq_true rfl) (Nat.le_of_ble_eq_true rfl) rfl dX13_toldOf_34
    · exact dn_lv [0] rfl (hj18 r0)
abbrev rmX13_rowDigest : Room := { frames := 1, cells := 0, slots := 0, locals := 22 }
def fX13_rowDigest_b49 (c0 : Option Nat) (c3 : Int32) (s49 : Int64 × Int32) : dnM ((Int64 × Int32) ⊕ (Int64)) :=
  dnB (dnGR c0 11 7) fun v4 =>
  dnB (dnAI v4 100 c3) fun v5 =>
  if v5 ≤ s49.2 then
  (dnP (.inr s49.1))
  else
  (dnB (dnCv c0 11 (fX13_loads c0 c3 s49.2)) fun _ =>
  dnB (dnGI c0 11 12) fun v7 =>
  dnB (dnCv c0 11 (fX13_toldOf c0)) fun v8 =>
  dnP (.inl (((31 * ((31 * s49.1) + ((v7 : Int32).toInt64))) + v8), (s49.2 + 1))))
def fX13_rowDigest (r0 : Option Nat) (p1 : Int64) (p3 : Int32) : dnM Int64 :=
  dnB (dnCv r0 11 (fX13_holder r0 p3)) fun v1 =>
  dnB (dnNz 6) fun _ =>
  dnB (dnNz 6) fun _ =>
  dnB (dnGR r0 11 7) fun v2 =>
  dnB (dnAI v2 100 p3) fun v3 =>
  dnB (dnIt 1000 (fX13_rowDigest_b49 r0 p3) (((31 * ((31 * p1) + ((((10 * (v1 / 6)) + (v1 - v1 / 6 * 6)) : Int32).toInt64))) + ((v3 : Int32).toInt64)), 0)) fun q49 =>
  dnP q49
abbrev jX13_rowDigest (w : dnWd) (x : dnX) (b : Nat) := dnD w x b (fun _ => True) cX13_rowDigest RX13 8 rmX13_rowDigest "rowDigest" eL
set_option maxHeartbeats 4000000 in
set_option maxRecDepth 100000 in
theorem mX13_rowDigest (w : dnWd) (x : dnX) (b : Nat) (r0 : Option Nat) (p1 : Int64) (p3 : Int32) : dnMt w x b yX13_rowDigest cX13_rowDigest 8 (some .long) rmX13_rowDigest eL [dnV b r0, .long p1, .int p3] (fX13_rowDigest r0 p1 p3) := by
  have hlv : lv_args 0 [dnV b r0, .long p1, .int p3] = [(0, dnV b r0), (1, .long p1), (3, .int p3)] := by cases r0 <;> rfl
  refine dn_mt (by decide +kernel) roL (by cases r0 <;> exact (Nat.le_of_ble_eq_true rfl)) ?_
  rw [hlv]
  refine dn_top ?_
  show jX13_rowDigest w x b 0 0 0 _ [] (dnB _ dnP)
  unfold fX13_rowDigest
  refine dn_aload_n (pc := 0) r0 0 dX13_rowDigest_0 rfl ?_
  refine dn_iload_n (pc := 1) 2 dX13_rowDigest_1 rfl ?_
  refine dn_callV0I (pc := 2) [.int p3] r0 kRX13_537 (mX13_holder w x b r0 p3) rfl rfl (Nat.le_of_ble_eq_true rfl) ⟨(Nat.le_of_ble_eq_true rfl), (Nat.le_of_ble_eq_true rfl)⟩ ⟨rfl, rfl, (Nat.le_of_ble_eq_true rfl), (Nat.le_of_ble_eq_true rfl)⟩ dX13_rowDigest_2 (fun v1 => ?_)
  refine dn_istore (pc := 5) dX13_rowDigest_5 (Nat.le_of_ble_eq_true rfl) (dnKp_nb 2 rfl rfl rfl (dnKp_of (lv2 := [(0, dnV b r0), (1, .long p1)]) [0, 1] rfl rfl)) ?_
  refine dn_ldc2 (pc := 7) kRX13_549 dX13_rowDigest_7 ?_
  refine dn_lload_n (pc := 10) 3 dX13_rowDigest_10 rfl ?_
  refine dn_lmul (pc := 11) dX13_rowDigest_11 ?_
  refine dn_bipush (pc := 12) (v := 10) dX13_rowDigest_12 rfl ?_
  refine dn_iload (pc := 14) 0 dX13_rowDigest_14 rfl ?_
  refine dn_bipush (pc := 16) (v := 6) dX13_rowDigest_16 rfl ?_
  refine dn_idiv (pc := 18) dX13_rowDigest_18 ?_
  refine dn_imul (pc := 19) dX13_rowDigest_19 ?_
  refine dn_iload (pc := 20) 0 dX13_rowDigest_20 rfl ?_
  refine dn_bipush (pc := 22) (v := 6) dX13_rowDigest_22 rfl ?_
  refine dn_irem (pc := 24) dX13_rowDigest_24 ?_
  refine dn_iadd (pc := 25) dX13_rowDigest_25 ?_
  refine dn_i2l (pc := 26) dX13_rowDigest_26 ?_
  refine dn_ladd (pc := 27) dX13_rowDigest_27 ?_
  refine dn_lstore (pc := 28) dX13_rowDigest_28 (Nat.le_of_ble_eq_true rfl) (dnKp_of (lv2 := [(3, .int p3), (0, dnV b r0)]) [1, 2] rfl rfl) ?_
  refine dn_ldc2 (pc := 30) kRX13_549 dX13_rowDigest_30 ?_
  refine dn_lload (pc := 33) 0 dX13_rowDigest_33 rfl ?_
  refine dn_lmul (pc := 35) dX13_rowDigest_35 ?_
  refine dn_aload_n (pc := 36) r0 2 dX13_rowDigest_36 rfl ?_
  refine dn_getR (pc := 37) r0 lRX13_26 dX13_rowDigest_37 (fun v2 => ?_)
  refine dn_iload_n (pc := 40) 1 dX13_rowDigest_40 rfl ?_
  refine dn_iald (pc := 41) v2 dX13_rowDigest_41 (fun v3 => ?_)
  refine dn_i2l (pc := 42) dX13_rowDigest_42 ?_
  refine dn_ladd (pc := 43) dX13_rowDigest_43 ?_
  refine dn_lstore (pc := 44) dX13_rowDigest_44 (Nat.le_of_ble_eq_true rfl) (dnKp_of (lv2 := [(3, .int p3), (0, dnV b r0)]) [1, 2] rfl rfl) ?_
  refine dn_iconst (pc := 46) (v := 0) dX13_rowDigest_46 rfl ?_
  refine dn_istore (pc := 47) dX13_rowDigest_47 (Nat.le_of_ble_eq_true rfl) (dnKp_of (lv2 := [(5, .long ((31 * ((31 * p1) + ((((10 * (v1 / 6)) + (v1 - v1 / 6 * 6)) : Int32).toInt64))) + ((v3 : Int32).toInt64))), (3, .int p3), (0, dnV b r0)]) [0, 1, 2] rfl rfl) ?_
  refine dn_assoc ?_
  refine dn_lv [3, 2, 1, 0] (lv2 := (fun s => [(0, dnV b r0), (3, .int p3), (5, .long s.1), (7, .int s.2)]) (((31 * ((31 * p1) + ((((10 * (v1 / 6)) + (v1 - v1 / 6 * 6)) : Int32).toInt64))) + ((v3 : Int32).toInt64)), 0)) rfl ?_
  refine dn_loopE (pc := 49) (body := fX13_rowDigest_b49 r0 p3) 100 (fun s => [(0, dnV b r0), (3, .int p3), (5, .long s.1), (7, .int s.2)]) (fun q => [(5, .long q)]) (fun s49 K49 E49 hK49 hE49 => ?_) (fun q49 => ?_) 1000 (((31 * ((31 * p1) + ((((10 * (v1 / 6)) + (v1 - v1 / 6 * 6)) : Int32).toInt64))) + ((v3 : Int32).toInt64)), 0)
  · unfold fX13_rowDigest_b49
    refine dn_iload (pc := 49) 3 dX13_rowDigest_49 rfl ?_
    refine dn_aload_n (pc := 51) r0 0 dX13_rowDigest_51 rfl ?_
    refine dn_getR (pc := 52) r0 lRX13_26 dX13_rowDigest_52 (fun v4 => ?_)
    refine dn_iload_n (pc := 55) 1 dX13_rowDigest_55 rfl ?_
    refine dn_iald (pc := 56) v4 dX13_rowDigest_56 (fun v5 => ?_)
    refine dn_icmp_ge (pc := 57) 100 dX13_rowDigest_57 rfl (fun _ => ?_) (fun _ => ?_)
    · refine dn_leaf ?_
      exact dn_lv [2] rfl (hE49 s49.1)
    · refine dn_aload_n (pc := 60) r0 0 dX13_rowDigest_60 rfl ?_
      refine dn_iload_n (pc := 61) 1 dX13_rowDigest_61 rfl ?_
      refine dn_iload (pc := 62) 3 dX13_rowDigest_62 rfl ?_
      refine dn_callV0U (pc := 64) [.int p3, .int s49.2] r0 kRX13_236 (mX13_loads w x b r0 p3 s49.2) rfl rfl (Nat.le_of_ble_eq_true rfl) ⟨(Nat.le_of_ble_eq_true rfl), (Nat.le_of_ble_eq_true rfl)⟩ ⟨rfl, rfl, (Nat.le_of_ble_eq_true rfl), (Nat.le_of_ble_eq_true rfl)⟩ dX13_rowDigest_64 (fun _ => ?_)
      refine dn_ldc2 (pc := 67) kRX13_549 dX13_rowDigest_67 ?_
      refine dn_lload (pc := 70) 2 dX13_rowDigest_70 rfl ?_
      refine dn_lmul (pc := 72) dX13_rowDigest_72 ?_
      refine dn_aload_n (pc := 73) r0 0 dX13_rowDigest_73 rfl ?_
      refine dn_getI (pc := 74) r0 lRX13_190 dX13_rowDigest_74 (fun v7 => ?_)
      refine dn_i2l (pc := 77) dX13_rowDigest_77 ?_
      refine dn_ladd (pc := 78) dX13_rowDigest_78 ?_
      refine dn_lstore (pc := 79) dX13_rowDigest_79 (Nat.le_of_ble_eq_true rfl) (dnKp_of (lv2 := [(0, dnV b r0), (3, .int p3), (7, .int s49.2)]) [0, 1, 3] rfl rfl) ?_
      refine dn_ldc2 (pc := 81) kRX13_549 dX13_rowDigest_81 ?_
      refine dn_lload (pc := 84) 0 dX13_rowDigest_84 rfl ?_
      refine dn_lmul (pc := 86) dX13_rowDigest_86 ?_
      refine dn_aload_n (pc := 87) r0 1 dX13_rowDigest_87 rfl ?_
      refine dn_callV0L (pc := 88) [] r0 kRX13_239 (mX13_toldOf w x b r0) rfl rfl (Nat.le_of_ble_eq_true rfl) ⟨(Nat.le_of_ble_eq_true rfl), (Nat.le_of_ble_eq_true rfl)⟩ ⟨rfl, rfl, (Nat.le_of_ble_eq_true rfl), (Nat.le_of_ble_eq_true rfl)⟩ dX13_rowDigest_88 (fun v8 => ?_)
      refine dn_ladd (pc := 91) dX13_rowDigest_91 ?_
      refine dn_lstore (pc := 92) dX13_rowDigest_92 (Nat.le_of_ble_eq_true rfl) (dnKp_of (lv2 := [(0, dnV b r0), (3, .int p3), (7, .int s49.2)]) [1, 2, 3] rfl rfl) ?_
      refine dn_iinc (pc := 94) (s49.2 + 1) 3 dX13_rowDigest_94 rfl rfl (Nat.le_of_ble_eq_true rfl) (dnKp_of (lv2 := [(5, .long ((31 * ((31 * s49.1) + ((v7 : Int32).toInt64))) + v8)), (0, dnV b r0), (3, .int p3)]) [0, 1, 2] rfl rfl) ?_
      refine dn_goto (pc := 97) 49 dX13_rowDigest_97 rfl ?_
      refine dn_leaf ?_
      exact dn_lv [2, 3, 1, 0] rfl (hK49 (((31 * ((31 * s49.1) + ((v7 : Int32).toInt64))) + v8), (s49.2 + 1)))
  · refine dn_lload (pc := 100) 0 dX13_rowDigest_100 rfl ?_
    exact dn_ret (Nat.le_of_ble_eq_true rfl) (Nat.le_of_ble_eq_true rfl) rfl dX13_rowDigest_102
abbrev rmX13_digest : Room := { frames := 2, cells := 0, slots := 0, locals := 49 }
def fX13_digest_j80 (l0 : Option Nat) (l3 : Int32) (l4 : Int32) (s0 : Int64) : dnM ((Int64 × Int32) ⊕ (Int64)) :=
  dnP (.inl (s0, (l4 + 1)))
def fX13_digest_b28 (c0 : Option Nat) (c3 : Int32) (s28 : Int64 × Int32) : dnM ((Int64 × Int32) ⊕ (Int64)) :=
  dnB (dnGR c0 11 4) fun v3 =>
  dnB (dnAI v3 100 c3) fun v4 =>
  if v4 ≤ s28.2 then
  (dnP (.inr s28.1))
  else
  (dnB (dnCv c0 11 (fX13_holdsOf c0 c3 s28.2)) fun v5 =>
  dnB (dnCv c0 11 (fX13_held c0 c3 s28.2)) fun v6 =>
  if v6 < 0 then
  (fX13_digest_j80 c0 c3 s28.2 ((31 * s28.1) + ((v5 : Int32).toInt64)))
  else
  (dnB (dnCv c0 11 (fX13_held c0 c3 s28.2)) fun v7 =>
  dnB (dnCv c0 11 (fX13_rowDigest c0 ((31 * s28.1) + ((v5 : Int32).toInt64)) v7)) fun v8 =>
  fX13_digest_j80 c0 c3 s28.2 v8))
def fX13_digest_b6 (c0 : Option Nat) (s6 : Int64 × Int32) : dnM ((Int64 × Int32) ⊕ (Int64)) :=
  if 4 ≤ s6.2 then
  (dnP (.inr s6.1))
  else
  (dnB (dnGR c0 11 4) fun v1 =>
  dnB (dnAI v1 100 s6.2) fun v2 =>
  dnB (dnIt 1000 (fX13_digest_b28 c0 s6.2) (((31 * s6.1) + ((v2 : Int32).toInt64)), 0)) fun q28 =>
  dnP (.inl (q28, (s6.2 + 1))))
def fX13_digest (r0 : Option Nat) : dnM Int64 :=
  dnB (dnIt 1000 (fX13_digest_b6 r0) (17, 0)) fun q6 =>
  dnP q6
abbrev jX13_digest (w : dnWd) (x : dnX) (b : Nat) := dnD w x b (fun _ => True) cX13_digest RX13 5 rmX13_digest "digest" eL
set_option maxHeartbeats 4000000 in
set_option maxRecDepth 100000 in
theorem mX13_digest (w : dnWd) (x : dnX) (b : Nat) (r0 : Option Nat) : dnMt w x b yX13_digest cX13_digest 5 (some .long) rmX13_digest eL [dnV b r0] (fX13_digest r0) := by
  have hlv : lv_args 0 [dnV b r0] = [(0, dnV b r0)] := by cases r0 <;> rfl
  refine dn_mt (by decide +kernel) roL (by cases r0 <;> exact (Nat.le_of_ble_eq_true rfl)) ?_
  rw [hlv]
  refine dn_top ?_
  show jX13_digest w x b 0 0 0 _ [] (dnB _ dnP)
  unfold fX13_digest
  refine dn_ldc2 (pc := 0) kRX13_551 dX13_digest_0 ?_
  refine dn_lstore_n (pc := 3) dX13_digest_3 (Nat.le_of_ble_eq_true rfl) (dnKp_nb 0 rfl (dn_cat b _) rfl (dnKp_of (lv2 := []) [] rfl rfl)) ?_
  refine dn_iconst (pc := 4) (v := 0) dX13_digest_4 rfl ?_
  refine dn_istore_n (pc := 5) dX13_digest_5 (Nat.le_of_ble_eq_true rfl) (dnKp_of (lv2 := [(1, .long 17), (0, dnV b r0)]) [0, 1] rfl rfl) ?_
  refine dn_assoc ?_
  refine dn_lv [2, 1, 0] (lv2 := (fun s => [(0, dnV b r0), (1, .long s.1), (3, .int s.2)]) (17, 0)) rfl ?_
  refine dn_loopE (pc := 6) (body := fX13_digest_b6 r0) 93 (fun s => [(0, dnV b r0), (1, .long s.1), (3, .int s.2)]) (fun q => [(1, .long q)]) (fun s6 K6 E6 hK6 hE6 => ?_) (fun q6 => ?_) 1000 (17, 0)
  · unfold fX13_digest_b6
    refine dn_iload_n (pc := 6) 2 dX13_digest_6 rfl ?_
    refine dn_iconst (pc := 7) (v := 4) dX13_digest_7 rfl ?_
    refine dn_icmp_ge (pc := 8) 93 dX13_digest_8 rfl (fun _ => ?_) (fun _ => ?_)
    · refine dn_leaf ?_
      exact dn_lv [1] rfl (hE6 s6.1)
    · refine dn_ldc2 (pc := 11) kRX13_549 dX13_digest_11 ?_
      refine dn_lload_n (pc := 14) 1 dX13_digest_14 rfl ?_
      refine dn_lmul (pc := 15) dX13_digest_15 ?_
      refine dn_aload_n (pc := 16) r0 0 dX13_digest_16 rfl ?_
      refine dn_getR (pc := 17) r0 lRX13_17 dX13_digest_17 (fun v1 => ?_)
      refine dn_iload_n (pc := 20) 2 dX13_digest_20 rfl ?_
      refine dn_iald (pc := 21) v1 dX13_digest_21 (fun v2 => ?_)
      refine dn_i2l (pc := 22) dX13_digest_22 ?_
      refine dn_ladd (pc := 23) dX13_digest_23 ?_
      refine dn_lstore_n (pc := 24) dX13_digest_24 (Nat.le_of_ble_eq_true rfl) (dnKp_nb 0 rfl (dn_cat b _) rfl (dnKp_of (lv2 := [(3, .int s6.2)]) [2] rfl rfl)) ?_
      refine dn_iconst (pc := 25) (v := 0) dX13_digest_25 rfl ?_
      refine dn_istore (pc := 26) dX13_digest_26 (Nat.le_of_ble_eq_true rfl) (dnKp_nb 2 rfl rfl rfl (dnKp_of (lv2 := [(1, .long ((31 * s6.1) + ((v2 : Int32).toInt64))), (0, dnV b r0)]) [0, 1] rfl rfl)) ?_
      refine dn_assoc ?_
      refine dn_lv [3, 2, 1, 0] (lv2 := (fun s => [(0, dnV b r0), (1, .long s.1), (3, .int s6.2), (4, .int s.2)]) (((31 * s6.1) + ((v2 : Int32).toInt64)), 0)) rfl ?_
      refine dn_loopE (pc := 28) (body := fX13_digest_b28 r0 s6.2) 87 (fun s => [(0, dnV b r0), (1, .long s.1), (3, .int s6.2), (4, .int s.2)]) (fun q => [(0, dnV b r0), (1, .long q), (3, .int s6.2)]) (fun s28 K28 E28 hK28 hE28 => ?_) (fun q28 => ?_) 1000 (((31 * s6.1) + ((v2 : Int32).toInt64)), 0)
      · unfold fX13_digest_b28
        have hj80 : ∀ (l4 : Int32) (s0 : Int64), jX13_digest w x b 80 0 0 [(0, dnV b r0), (3, .int s6.2), (4, .int l4)] [.long s0] (dnB (fX13_digest_j80 r0 s6.2 l4 s0) (dnKo K28 E28)) := by
          intro l4 s0
          unfold fX13_digest_j80
          refine dn_lstore_n (pc := 80) dX13_digest_80 (Nat.le_of_ble_eq_true rfl) (dnKp_nb 0 rfl (dn_cat b _) rfl (dnKp_of (lv2 := [(3, .int s6.2), (4, .int l4)]) [1, 2] rfl rfl)) ?_
          refine dn_iinc (pc := 81) (l4 + 1) 3 dX13_digest_81 rfl rfl (Nat.le_of_ble_eq_true rfl) (dnKp_nb 2 rfl rfl rfl (dnKp_of (lv2 := [(1, .long s0), (0, dnV b r0)]) [0, 1] rfl rfl)) ?_
          refine dn_goto (pc := 84) 28 dX13_digest_84 rfl ?_
          refine dn_leaf ?_
          exact dn_lv [3, 2, 1, 0] rfl (hK28 (s0, (l4 + 1)))
        refine dn_iload (pc := 28) 3 dX13_digest_28 rfl ?_
        refine dn_aload_n (pc := 30) r0 0 dX13_digest_30 rfl ?_
        refine dn_getR (pc := 31) r0 lRX13_17 dX13_digest_31 (fun v3 => ?_)
        refine dn_iload_n (pc := 34) 2 dX13_digest_34 rfl ?_
        refine dn_iald (pc := 35) v3 dX13_digest_35 (fun v4 => ?_)
        refine dn_icmp_ge (pc := 36) 87 dX13_digest_36 rfl (fun _ => ?_) (fun _ => ?_)
        · refine dn_leaf ?_
          exact dn_lv [0, 1, 2] rfl (hE28 s28.1)
        · refine dn_ldc2 (pc := 39) kRX13_549 dX13_digest_39 ?_
          refine dn_lload_n (pc := 42) 1 dX13_digest_42 rfl ?_
          refine dn_lmul (pc := 43) dX13_digest_43 ?_
          refine dn_aload_n (pc := 44) r0 0 dX13_digest_44 rfl ?_
          refine dn_iload_n (pc := 45) 2 dX13_digest_45 rfl ?_
          refine dn_iload (pc := 46) 3 dX13_digest_46 rfl ?_
          refine dn_callV0I (pc := 48) [.int s6.2, .int s28.2] r0 kRX13_169 (mX13_holdsOf w x b r0 s6.2 s28.2) rfl rfl (Nat.le_of_ble_eq_true rfl) ⟨(Nat.le_of_ble_eq_true rfl), (Nat.le_of_ble_eq_true rfl)⟩ ⟨rfl, rfl, (Nat.le_of_ble_eq_true rfl), (Nat.le_of_ble_eq_true rfl)⟩ dX13_digest_48 (fun v5 => ?_)
          refine dn_i2l (pc := 51) dX13_digest_51 ?_
          refine dn_ladd (pc := 52) dX13_digest_52 ?_
          refine dn_lstore_n (pc := 53) dX13_digest_53 (Nat.le_of_ble_eq_true rfl) (dnKp_nb 0 rfl (dn_cat b _) rfl (dnKp_of (lv2 := [(3, .int s6.2), (4, .int s28.2)]) [2, 3] rfl rfl)) ?_
          refine dn_aload_n (pc := 54) r0 1 dX13_digest_54 rfl ?_
          refine dn_iload_n (pc := 55) 2 dX13_digest_55 rfl ?_
          refine dn_iload (pc := 56) 3 dX13_digest_56 rfl ?_
          refine dn_callV0I (pc := 58) [.int s6.2, .int s28.2] r0 kRX13_128 (mX13_held w x b r0 s6.2 s28.2) rfl rfl (Nat.le_of_ble_eq_true rfl) ⟨(Nat.le_of_ble_eq_true rfl), (Nat.le_of_ble_eq_true rfl)⟩ ⟨rfl, rfl, (Nat.le_of_ble_eq_true rfl), (Nat.le_of_ble_eq_true rfl)⟩ dX13_digest_58 (fun v6 => ?_)
          refine dn_if_lt (pc := 61) 79 dX13_digest_61 rfl (fun _ => ?_) (fun _ => ?_)
          · refine dn_lload_n (pc := 79) 0 dX13_digest_79 rfl ?_
            exact dn_lv [1, 2, 3] rfl (hj80 s28.2 ((31 * s28.1) + ((v5 : Int32).toInt64)))
          · refine dn_aload_n (pc := 64) r0 1 dX13_digest_64 rfl ?_
            refine dn_lload_n (pc := 65) 0 dX13_digest_65 rfl ?_
            refine dn_aload_n (pc := 66) r0 1 dX13_digest_66 rfl ?_
            refine dn_iload_n (pc := 67) 2 dX13_digest_67 rfl ?_
            refine dn_iload (pc := 68) 3 dX13_digest_68 rfl ?_
            refine dn_callV0I (pc := 70) [.int s6.2, .int s28.2] r0 kRX13_128 (mX13_held w x b r0 s6.2 s28.2) rfl rfl (Nat.le_of_ble_eq_true rfl) ⟨(Nat.le_of_ble_eq_true rfl), (Nat.le_of_ble_eq_true rfl)⟩ ⟨rfl, rfl, (Nat.le_of_ble_eq_true rfl), (Nat.le_of_ble_eq_true rfl)⟩ dX13_digest_70 (fun v7 => ?_)
            refine dn_callV0L (pc := 73) [.long ((31 * s28.1) + ((v5 : Int32).toInt64)), .int v7] r0 kRX13_553 (mX13_rowDigest w x b r0 ((31 * s28.1) + ((v5 : Int32).toInt64)) v7) rfl rfl (Nat.le_of_ble_eq_true rfl) ⟨(Nat.le_of_ble_eq_true rfl), (Nat.le_of_ble_eq_true rfl)⟩ ⟨rfl, rfl, (Nat.le_of_ble_eq_true rfl), (Nat.le_of_ble_eq_true rfl)⟩ dX13_digest_73 (fun v8 => ?_)
            refine dn_goto (pc := 76) 80 dX13_digest_76 rfl ?_
            exact dn_lv [1, 2, 3] rfl (hj80 s28.2 v8)
      · refine dn_iinc (pc := 87) (s6.2 + 1) 2 dX13_digest_87 rfl rfl (Nat.le_of_ble_eq_true rfl) (dnKp_of (lv2 := [(0, dnV b r0), (1, .long q28)]) [0, 1] rfl rfl) ?_
        refine dn_goto (pc := 90) 6 dX13_digest_90 rfl ?_
        refine dn_leaf ?_
        exact dn_lv [1, 2, 0] rfl (hK6 (q28, (s6.2 + 1)))
  · refine dn_lload_n (pc := 93) 0 dX13_digest_93 rfl ?_
    exact dn_ret (Nat.le_of_ble_eq_true rfl) (Nat.le_of_ble_eq_true rfl) rfl dX13_digest_94
abbrev rmX13_dropDeed : Room := { frames := 2, cells := 0, slots := 0, locals := 46 }
def fX13_dropDeed (r0 : Option Nat) (p1 : Int32) : dnM Int32 :=
  dnB (fX13_isGrid p1) fun v1 =>
  if v1 = true then
  (dnB (dnGR r0 11 4) fun v2 =>
  dnB (dnAI v2 100 p1) fun v3 =>
  if 0 ≤ v3 then
  (dnB (dnCv r0 11 (fX13_anew r0 p1 (-1))) fun _ =>
  dnP v3)
  else
  (dnP (-2)))
  else
  (dnP (-1))
abbrev jX13_dropDeed (w : dnWd) (x : dnX) (b : Nat) := dnD w x b (fun _ => True) cX13_dropDeed RX13 3 rmX13_dropDeed "dropDeed" eI
set_option maxHeartbeats 4000000 in
set_option maxRecDepth 100000 in
theorem mX13_dropDeed (w : dnWd) (x : dnX) (b : Nat) (r0 : Option Nat) (p1 : Int32) : dnMt w x b yX13_dropDeed cX13_dropDeed 3 (some .int) rmX13_dropDeed eI [dnV b r0, .int p1] (fX13_dropDeed r0 p1) := by
  have hlv : lv_args 0 [dnV b r0, .int p1] = [(0, dnV b r0), (1, .int p1)] := by cases r0 <;> rfl
  refine dn_mt (by decide +kernel) roI (by cases r0 <;> exact (Nat.le_of_ble_eq_true rfl)) ?_
  rw [hlv]
  refine dn_top ?_
  show jX13_dropDeed w x b 0 0 0 _ [] (dnB _ dnP)
  unfold fX13_dropDeed
  refine dn_iload_n (pc := 0) 1 dX13_dropDeed_0 rfl ?_
  refine dn_callS0Z (pc := 1) [.int p1]  kRX13_134 (mX13_isGrid w x b p1) rfl rfl (Nat.le_of_ble_eq_true rfl) ⟨(Nat.le_of_ble_eq_true rfl), (Nat.le_of_ble_eq_true rfl)⟩ ⟨rfl, rfl, (Nat.le_of_ble_eq_true rfl), (Nat.le_of_ble_eq_true rfl)⟩ dX13_dropDeed_1 (fun v1 => ?_)
  refine dn_ifz_ne (pc := 4) 9 dX13_dropDeed_4 rfl (fun _ => ?_) (fun _ => ?_)
  · refine dn_aload_n (pc := 9) r0 0 dX13_dropDeed_9 rfl ?_
    refine dn_getR (pc := 10) r0 lRX13_17 dX13_dropDeed_10 (fun v2 => ?_)
    refine dn_iload_n (pc := 13) 1 dX13_dropDeed_13 rfl ?_
    refine dn_iald (pc := 14) v2 dX13_dropDeed_14 (fun v3 => ?_)
    refine dn_istore_n (pc := 15) dX13_dropDeed_15 (Nat.le_of_ble_eq_true rfl) (dnKp_nb 1 rfl rfl rfl (dnKp_of (lv2 := [(0, dnV b r0)]) [0] rfl rfl)) ?_
    refine dn_iload_n (pc := 16) 0 dX13_dropDeed_16 rfl ?_
    refine dn_if_ge (pc := 17) 23 dX13_dropDeed_17 rfl (fun _ => ?_) (fun _ => ?_)
    · refine dn_aload_n (pc := 23) r0 2 dX13_dropDeed_23 rfl ?_
      refine dn_iload_n (pc := 24) 1 dX13_dropDeed_24 rfl ?_
      refine dn_iconst (pc := 25) (v := -1) dX13_dropDeed_25 rfl ?_
      refine dn_callV0U (pc := 26) [.int p1, .int (-1)] r0 kRX13_141 (mX13_anew w x b r0 p1 (-1)) rfl rfl (Nat.le_of_ble_eq_true rfl) ⟨(Nat.le_of_ble_eq_true rfl), (Nat.le_of_ble_eq_true rfl)⟩ ⟨rfl, rfl, (Nat.le_of_ble_eq_true rfl), (Nat.le_of_ble_eq_true rfl)⟩ dX13_dropDeed_26 (fun _ => ?_)
      refine dn_iload_n (pc := 29) 0 dX13_dropDeed_29 rfl ?_
      exact dn_ret (Nat.le_of_ble_eq_true rfl) (Nat.le_of_ble_eq_true rfl) rfl dX13_dropDeed_30
    · refine dn_bipush (pc := 20) (v := -2) dX13_dropDeed_20 rfl ?_
      exact dn_ret (Nat.le_of_ble_eq_true rfl) (Nat.le_of_ble_eq_true rfl) rfl dX13_dropDeed_22
  · refine dn_iconst (pc := 7) (v := -1) dX13_dropDeed_7 rfl ?_
    exact dn_ret (Nat.le_of_ble_eq_true rfl) (Nat.le_of_ble_eq_true rfl) rfl dX13_dropDeed_8
abbrev rmX13_flatDeed : Room := { frames := 4, cells := 0, slots := 0, locals := 89 }
def fX13_flatDeed_j127 (l0 : Option Nat) (l1 : Int32) (l2 : Int32) (l3 : Int32) (l5 : Int32) (l7 : Int32) (s0 : Int32) (s1 : Int32) : dnM ((Int32 × Int32 × Int32) ⊕ (Int32 × Int32)) :=
  dnP (.inl (l5, (s0 ||| s1), (l7 + 1)))
def fX13_flatDeed_j94 (l0 : Option Nat) (l1 : Int32) (l2 : Int32) (l3 : Int32) (l6 : Int32) (l7 : Int32) (s0 : Int32) (s1 : Int32) : dnM ((Int32 × Int32 × Int32) ⊕ (Int32 × Int32)) :=
  dnB (dnCv l0 11 (fX13_isRow l0 l1 l7)) fun v1 =>
  if v1 = true then
  (dnB (dnGR l0 11 6) fun v2 =>
  dnB (dnCv l0 11 (fX13_held l0 l1 l7)) fun v3 =>
  dnB (dnAI v2 100 v3) fun v4 =>
  fX13_flatDeed_j127 l0 l1 l2 l3 (s0 + s1) l7 l6 (1 <<< (v4 &&& 31)))
  else
  (fX13_flatDeed_j127 l0 l1 l2 l3 (s0 + s1) l7 l6 0)
def fX13_flatDeed_b55 (c0 : Option Nat) (c1 : Int32) (c2 : Int32) (c3 : Int32) (s55 : Int32 × Int32 × Int32) : dnM ((Int32 × Int32 × Int32) ⊕ (Int32 × Int32)) :=
  dnB (dnGR c0 11 4) fun v5 =>
  dnB (dnAI v5 100 c1) fun v6 =>
  if v6 ≤ s55.2.2 then
  (dnP (.inr (s55.1, s55.2.1)))
  else
  (dnB (dnCv c0 11 (fX13_isRow c0 c1 s55.2.2)) fun v7 =>
  if v7 = true then
  (dnB (dnGR c0 11 7) fun v8 =>
  dnB (dnCv c0 11 (fX13_held c0 c1 s55.2.2)) fun v9 =>
  dnB (dnAI v8 100 v9) fun v10 =>
  fX13_flatDeed_j94 c0 c1 c2 c3 s55.2.1 s55.2.2 s55.1 v10)
  else
  (fX13_flatDeed_j94 c0 c1 c2 c3 s55.2.1 s55.2.2 s55.1 0))
def fX13_flatDeed_j232 (l0 : Option Nat) (l1 : Int32) (l2 : Int32) (l3 : Int32) (l5 : Int32) (l7 : Int32) (l8 : Int32) (l9 : Int32) : dnM ((Int32 × Int32) ⊕ (Unit)) :=
  dnP (.inl (l8, (l9 + 1)))
def fX13_flatDeed_b179 (c0 : Option Nat) (c1 : Int32) (c2 : Int32) (c3 : Int32) (c5 : Int32) (c7 : Int32) (c9 : Int32) (s179 : Int32 × Int32) : dnM ((Int32 × Int32) ⊕ (Int32)) :=
  dnB (dnCv c0 11 (fX13_isRow c0 c1 c9)) fun v15 =>
  if v15 = true then
  (dnB (dnGR c0 11 7) fun v16 =>
  dnB (dnCv c0 11 (fX13_held c0 c1 c9)) fun v17 =>
  dnB (dnAI v16 100 v17) fun v18 =>
  if v18 ≤ s179.2 then
  (dnP (.inr s179.1))
  else
  (dnB (dnCv c0 11 (fX13_held c0 c1 c9)) fun v19 =>
  dnB (dnCv c0 11 (fX13_copies c0 v19 s179.2 c7 s179.1)) fun _ =>
  dnP (.inl ((s179.1 + 1), (s179.2 + 1)))))
  else
  (dnP (.inr s179.1))
def fX13_flatDeed_b165 (c0 : Option Nat) (c1 : Int32) (c2 : Int32) (c3 : Int32) (c5 : Int32) (c7 : Int32) (s165 : Int32 × Int32) : dnM ((Int32 × Int32) ⊕ (Unit)) :=
  dnB (dnGR c0 11 4) fun v13 =>
  dnB (dnAI v13 100 c1) fun v14 =>
  if v14 ≤ s165.2 then
  (dnP (.inr ()))
  else
  (dnB (dnIt 1000 (fX13_flatDeed_b179 c0 c1 c2 c3 c5 c7 s165.2) (s165.1, 0)) fun q179 =>
  fX13_flatDeed_j232 c0 c1 c2 c3 c5 c7 q179 s165.2)
def fX13_flatDeed_j36 (l0 : Option Nat) (l1 : Int32) (l2 : Int32) (l3 : Int32) (s0 : Int32) : dnM Int32 :=
  if s0 = 0 then
  (dnB (dnIt 1000 (fX13_flatDeed_b55 l0 l1 l2 l3) (0, 0, 0)) fun q55 =>
  if q55.1 ≤ 12 then
  (dnB (fX13_leastKind q55.2) fun v11 =>
  dnB (dnCv l0 11 (fX13_newRow l0 v11 q55.1)) fun v12 =>
  dnB (dnIt 1000 (fX13_flatDeed_b165 l0 l1 l2 l3 q55.1 v12) (0, 0)) fun q165 =>
  dnB (dnCv l0 11 (fX13_holdsNow l0 l2 l3 v12)) fun _ =>
  dnP q55.1)
  else
  (dnP (-10)))
  else
  (dnP s0)
def fX13_flatDeed (r0 : Option Nat) (p1 : Int32) (p2 : Int32) (p3 : Int32) : dnM Int32 :=
  dnB (fX13_isGrid p1) fun v22 =>
  if v22 = true then
  (dnB (fX13_isGrid p2) fun v23 =>
  if v23 = true then
  (dnB (dnGR r0 11 4) fun v24 =>
  dnB (dnAI v24 100 p1) fun v25 =>
  if 0 ≤ v25 then
  (dnB (dnCv r0 11 (fX13_placeFault r0 p2 p3)) fun v26 =>
  fX13_flatDeed_j36 r0 p1 p2 p3 v26)
  else
  (fX13_flatDeed_j36 r0 p1 p2 p3 (-2)))
  else
  (dnP (-1)))
  else
  (dnP (-1))
abbrev jX13_flatDeed (w : dnWd) (x : dnX) (b : Nat) := dnD w x b (fun _ => True) cX13_flatDeed RX13 11 rmX13_flatDeed "flatDeed" eI
set_option maxHeartbeats 4000000 in
set_option maxRecDepth 100000 in
theorem mX13_flatDeed (w : dnWd) (x : dnX) (b : Nat) (r0 : Option Nat) (p1 : Int32) (p2 : Int32) (p3 : Int32) : dnMt w x b yX13_flatDeed cX13_flatDeed 11 (some .int) rmX13_flatDeed eI [dnV b r0, .int p1, .int p2, .int p3] (fX13_flatDeed r0 p1 p2 p3) := by
  have hlv : lv_args 0 [dnV b r0, .int p1, .int p2, .int p3] = [(0, dnV b r0), (1, .int p1), (2, .int p2), (3, .int p3)] := by cases r0 <;> rfl
  refine dn_mt (by decide +kernel) roI (by cases r0 <;> exact (Nat.le_of_ble_eq_true rfl)) ?_
  rw [hlv]
  refine dn_top ?_
  show jX13_flatDeed w x b 0 0 0 _ [] (dnB _ dnP)
  unfold fX13_flatDeed
  have hj36 : ∀ (l0 : Option Nat) (l1 : Int32) (l2 : Int32) (l3 : Int32) (s0 : Int32), jX13_flatDeed w x b 36 0 0 [(0, dnV b l0), (1, .int l1), (2, .int l2), (3, .int l3)] [.int s0] (dnB (fX13_flatDeed_j36 l0 l1 l2 l3 s0) dnP) := by
    intro l0 l1 l2 l3 s0
    unfold fX13_flatDeed_j36
    refine dn_istore (pc := 36) dX13_flatDeed_36 (Nat.le_of_ble_eq_true rfl) (dnKp_nb 3 rfl rfl rfl (dnKp_of (lv2 := [(0, dnV b l0), (1, .int l1), (2, .int l2)]) [0, 1, 2] rfl rfl)) ?_
    refine dn_iload (pc := 38) 0 dX13_flatDeed_38 rfl ?_
    refine dn_if_eq (pc := 40) 46 dX13_flatDeed_40 rfl (fun _ => ?_) (fun _ => ?_)
    · refine dn_iconst (pc := 46) (v := 0) dX13_flatDeed_46 rfl ?_
      refine dn_istore (pc := 47) dX13_flatDeed_47 (Nat.le_of_ble_eq_true rfl) (dnKp_of (lv2 := [(3, .int l3), (0, dnV b l0), (1, .int l1), (2, .int l2)]) [1, 2, 3, 4] rfl rfl) ?_
      refine dn_iconst (pc := 49) (v := 0) dX13_flatDeed_49 rfl ?_
      refine dn_istore (pc := 50) dX13_flatDeed_50 (Nat.le_of_ble_eq_true rfl) (dnKp_nb 0 rfl rfl rfl (dnKp_of (lv2 := [(3, .int l3), (0, dnV b l0), (1, .int l1), (2, .int l2)]) [1, 2, 3, 4] rfl rfl)) ?_
      refine dn_iconst (pc := 52) (v := 0) dX13_flatDeed_52 rfl ?_
      refine dn_istore (pc := 53) dX13_flatDeed_53 (Nat.le_of_ble_eq_true rfl) (dnKp_nb 0 rfl rfl rfl (dnKp_of (lv2 := [(5, .int 0), (3, .int l3), (0, dnV b l0), (1, .int l1), (2, .int l2)]) [1, 2, 3, 4, 5] rfl rfl)) ?_
      refine dn_assoc ?_
      refine dn_lv [4, 5, 6, 3, 2, 1, 0] (lv2 := (fun s => [(0, dnV b l0), (1, .int l1), (2, .int l2), (3, .int l3), (5, .int s.1), (6, .int s.2.1), (7, .int s.2.2)]) (0, 0, 0)) rfl ?_
      refine dn_loopE (pc := 55) (body := fX13_flatDeed_b55 l0 l1 l2 l3) 136 (fun s => [(0, dnV b l0), (1, .int l1), (2, .int l2), (3, .int l3), (5, .int s.1), (6, .int s.2.1), (7, .int s.2.2)]) (fun q => [(0, dnV b l0), (1, .int l1), (2, .int l2), (3, .int l3), (5, .int q.1), (6, .int q.2)]) (fun s55 K55 E55 hK55 hE55 => ?_) (fun q55 => ?_) 1000 (0, 0, 0)
      · unfold fX13_flatDeed_b55
        have hj127 : ∀ (l5 : Int32) (l7 : Int32) (s0 : Int32) (s1 : Int32), jX13_flatDeed w x b 127 0 0 [(0, dnV b l0), (1, .int l1), (2, .int l2), (3, .int l3), (5, .int l5), (7, .int l7)] [.int s1, .int s0] (dnB (fX13_flatDeed_j127 l0 l1 l2 l3 l5 l7 s0 s1) (dnKo K55 E55)) := by
          intro l5 l7 s0 s1
          unfold fX13_flatDeed_j127
          refine dn_ior (pc := 127) dX13_flatDeed_127 ?_
          refine dn_istore (pc := 128) dX13_flatDeed_128 (Nat.le_of_ble_eq_true rfl) (dnKp_nb 4 rfl rfl rfl (dnKp_of (lv2 := [(0, dnV b l0), (1, .int l1), (2, .int l2), (3, .int l3), (7, .int l7)]) [0, 1, 2, 3, 5] rfl rfl)) ?_
          refine dn_iinc (pc := 130) (l7 + 1) 6 dX13_flatDeed_130 rfl rfl (Nat.le_of_ble_eq_true rfl) (dnKp_nb 0 rfl rfl rfl (dnKp_of (lv2 := [(5, .int l5), (0, dnV b l0), (1, .int l1), (2, .int l2), (3, .int l3)]) [1, 2, 3, 4, 5] rfl rfl)) ?_
          refine dn_goto (pc := 133) 55 dX13_flatDeed_133 rfl ?_
          refine dn_leaf ?_
          exact dn_lv [3, 4, 5, 6, 2, 1, 0] rfl (hK55 (l5, (s0 ||| s1), (l7 + 1)))
        have hj94 : ∀ (l6 : Int32) (l7 : Int32) (s0 : Int32) (s1 : Int32), jX13_flatDeed w x b 94 0 0 [(0, dnV b l0), (1, .int l1), (2, .int l2), (3, .int l3), (6, .int l6), (7, .int l7)] [.int s1, .int s0] (dnB (fX13_flatDeed_j94 l0 l1 l2 l3 l6 l7 s0 s1) (dnKo K55 E55)) := by
          intro l6 l7 s0 s1
          unfold fX13_flatDeed_j94
          refine dn_iadd (pc := 94) dX13_flatDeed_94 ?_
          refine dn_istore (pc := 95) dX13_flatDeed_95 (Nat.le_of_ble_eq_true rfl) (dnKp_of (lv2 := [(0, dnV b l0), (1, .int l1), (2, .int l2), (3, .int l3), (6, .int l6), (7, .int l7)]) [0, 1, 2, 3, 4, 5] rfl rfl) ?_
          refine dn_iload (pc := 97) 5 dX13_flatDeed_97 rfl ?_
          refine dn_aload_n (pc := 99) l0 1 dX13_flatDeed_99 rfl ?_
          refine dn_iload_n (pc := 100) 2 dX13_flatDeed_100 rfl ?_
          refine dn_iload (pc := 101) 6 dX13_flatDeed_101 rfl ?_
          refine dn_callV0Z (pc := 103) [.int l1, .int l7] l0 kRX13_336 (mX13_isRow w x b l0 l1 l7) rfl rfl (Nat.le_of_ble_eq_true rfl) ⟨(Nat.le_of_ble_eq_true rfl), (Nat.le_of_ble_eq_true rfl)⟩ ⟨rfl, rfl, (Nat.le_of_ble_eq_true rfl), (Nat.le_of_ble_eq_true rfl)⟩ dX13_flatDeed_103 (fun v1 => ?_)
          refine dn_ifz_eq (pc := 106) 126 dX13_flatDeed_106 rfl (fun _ => ?_) (fun _ => ?_)
          · refine dn_iconst (pc := 109) (v := 1) dX13_flatDeed_109 rfl ?_
            refine dn_aload_n (pc := 110) l0 1 dX13_flatDeed_110 rfl ?_
            refine dn_getR (pc := 111) l0 lRX13_23 dX13_flatDeed_111 (fun v2 => ?_)
            refine dn_aload_n (pc := 114) l0 1 dX13_flatDeed_114 rfl ?_
            refine dn_iload_n (pc := 115) 2 dX13_flatDeed_115 rfl ?_
            refine dn_iload (pc := 116) 6 dX13_flatDeed_116 rfl ?_
            refine dn_callV0I (pc := 118) [.int l1, .int l7] l0 kRX13_128 (mX13_held w x b l0 l1 l7) rfl rfl (Nat.le_of_ble_eq_true rfl) ⟨(Nat.le_of_ble_eq_true rfl), (Nat.le_of_ble_eq_true rfl)⟩ ⟨rfl, rfl, (Nat.le_of_ble_eq_true rfl), (Nat.le_of_ble_eq_true rfl)⟩ dX13_flatDeed_118 (fun v3 => ?_)
            refine dn_iald (pc := 121) v2 dX13_flatDeed_121 (fun v4 => ?_)
            refine dn_ishl (pc := 122) dX13_flatDeed_122 ?_
            refine dn_goto (pc := 123) 127 dX13_flatDeed_123 rfl ?_
            exact dn_lv [1, 2, 3, 4, 0, 6] rfl (hj127 (s0 + s1) l7 l6 (1 <<< (v4 &&& 31)))
          · refine dn_iconst (pc := 126) (v := 0) dX13_flatDeed_126 rfl ?_
            exact dn_lv [1, 2, 3, 4, 0, 6] rfl (hj127 (s0 + s1) l7 l6 0)
        refine dn_iload (pc := 55) 6 dX13_flatDeed_55 rfl ?_
        refine dn_aload_n (pc := 57) l0 0 dX13_flatDeed_57 rfl ?_
        refine dn_getR (pc := 58) l0 lRX13_17 dX13_flatDeed_58 (fun v5 => ?_)
        refine dn_iload_n (pc := 61) 1 dX13_flatDeed_61 rfl ?_
        refine dn_iald (pc := 62) v5 dX13_flatDeed_62 (fun v6 => ?_)
        refine dn_icmp_ge (pc := 63) 136 dX13_flatDeed_63 rfl (fun _ => ?_) (fun _ => ?_)
        · refine dn_leaf ?_
          exact dn_lv [0, 1, 2, 3, 4, 5] rfl (hE55 (s55.1, s55.2.1))
        · refine dn_iload (pc := 66) 4 dX13_flatDeed_66 rfl ?_
          refine dn_aload_n (pc := 68) l0 0 dX13_flatDeed_68 rfl ?_
          refine dn_iload_n (pc := 69) 1 dX13_flatDeed_69 rfl ?_
          refine dn_iload (pc := 70) 6 dX13_flatDeed_70 rfl ?_
          refine dn_callV0Z (pc := 72) [.int l1, .int s55.2.2] l0 kRX13_336 (mX13_isRow w x b l0 l1 s55.2.2) rfl rfl (Nat.le_of_ble_eq_true rfl) ⟨(Nat.le_of_ble_eq_true rfl), (Nat.le_of_ble_eq_true rfl)⟩ ⟨rfl, rfl, (Nat.le_of_ble_eq_true rfl), (Nat.le_of_ble_eq_true rfl)⟩ dX13_flatDeed_72 (fun v7 => ?_)
          refine dn_ifz_eq (pc := 75) 93 dX13_flatDeed_75 rfl (fun _ => ?_) (fun _ => ?_)
          · refine dn_aload_n (pc := 78) l0 0 dX13_flatDeed_78 rfl ?_
            refine dn_getR (pc := 79) l0 lRX13_26 dX13_flatDeed_79 (fun v8 => ?_)
            refine dn_aload_n (pc := 82) l0 0 dX13_flatDeed_82 rfl ?_
            refine dn_iload_n (pc := 83) 1 dX13_flatDeed_83 rfl ?_
            refine dn_iload (pc := 84) 6 dX13_flatDeed_84 rfl ?_
            refine dn_callV0I (pc := 86) [.int l1, .int s55.2.2] l0 kRX13_128 (mX13_held w x b l0 l1 s55.2.2) rfl rfl (Nat.le_of_ble_eq_true rfl) ⟨(Nat.le_of_ble_eq_true rfl), (Nat.le_of_ble_eq_true rfl)⟩ ⟨rfl, rfl, (Nat.le_of_ble_eq_true rfl), (Nat.le_of_ble_eq_true rfl)⟩ dX13_flatDeed_86 (fun v9 => ?_)
            refine dn_iald (pc := 89) v8 dX13_flatDeed_89 (fun v10 => ?_)
            refine dn_goto (pc := 90) 94 dX13_flatDeed_90 rfl ?_
            exact dn_lv [0, 1, 2, 3, 5, 6] rfl (hj94 s55.2.1 s55.2.2 s55.1 v10)
          · refine dn_iconst (pc := 93) (v := 0) dX13_flatDeed_93 rfl ?_
            exact dn_lv [0, 1, 2, 3, 5, 6] rfl (hj94 s55.2.1 s55.2.2 s55.1 0)
      · refine dn_iload (pc := 136) 4 dX13_flatDeed_136 rfl ?_
        refine dn_bipush (pc := 138) (v := 12) dX13_flatDeed_138 rfl ?_
        refine dn_icmp_le (pc := 140) 146 dX13_flatDeed_140 rfl (fun _ => ?_) (fun _ => ?_)
        · refine dn_aload_n (pc := 146) l0 0 dX13_flatDeed_146 rfl ?_
          refine dn_iload (pc := 147) 5 dX13_flatDeed_147 rfl ?_
          refine dn_callS0I (pc := 149) [.int q55.2]  kRX13_294 (mX13_leastKind w x b q55.2) rfl rfl (Nat.le_of_ble_eq_true rfl) ⟨(Nat.le_of_ble_eq_true rfl), (Nat.le_of_ble_eq_true rfl)⟩ ⟨rfl, rfl, (Nat.le_of_ble_eq_true rfl), (Nat.le_of_ble_eq_true rfl)⟩ dX13_flatDeed_149 (fun v11 => ?_)
          refine dn_iload (pc := 152) 4 dX13_flatDeed_152 rfl ?_
          refine dn_callV0I (pc := 154) [.int v11, .int q55.1] l0 kRX13_155 (mX13_newRow w x b l0 v11 q55.1) rfl rfl (Nat.le_of_ble_eq_true rfl) ⟨(Nat.le_of_ble_eq_true rfl), (Nat.le_of_ble_eq_true rfl)⟩ ⟨rfl, rfl, (Nat.le_of_ble_eq_true rfl), (Nat.le_of_ble_eq_true rfl)⟩ dX13_flatDeed_154 (fun v12 => ?_)
          refine dn_istore (pc := 157) dX13_flatDeed_157 (Nat.le_of_ble_eq_true rfl) (dnKp_of (lv2 := [(0, dnV b l0), (1, .int l1), (2, .int l2), (3, .int l3), (5, .int q55.1)]) [0, 1, 2, 3, 4] rfl rfl) ?_
          refine dn_iconst (pc := 159) (v := 0) dX13_flatDeed_159 rfl ?_
          refine dn_istore (pc := 160) dX13_flatDeed_160 (Nat.le_of_ble_eq_true rfl) (dnKp_nb 0 rfl rfl rfl (dnKp_of (lv2 := [(0, dnV b l0), (1, .int l1), (2, .int l2), (3, .int l3), (5, .int q55.1)]) [1, 2, 3, 4, 5] rfl rfl)) ?_
          refine dn_iconst (pc := 162) (v := 0) dX13_flatDeed_162 rfl ?_
          refine dn_istore (pc := 163) dX13_flatDeed_163 (Nat.le_of_ble_eq_true rfl) (dnKp_nb 0 rfl rfl rfl (dnKp_of (lv2 := [(7, .int v12), (0, dnV b l0), (1, .int l1), (2, .int l2), (3, .int l3), (5, .int q55.1)]) [1, 2, 3, 4, 5, 6] rfl rfl)) ?_
          refine dn_assoc ?_
          refine dn_lv [3, 4, 5, 6, 7, 2, 1, 0] (lv2 := (fun s => [(0, dnV b l0), (1, .int l1), (2, .int l2), (3, .int l3), (5, .int q55.1), (7, .int v12), (8, .int s.1), (9, .int s.2)]) (0, 0)) rfl ?_
          refine dn_loopE (pc := 165) (body := fX13_flatDeed_b165 l0 l1 l2 l3 q55.1 v12) 238 (fun s => [(0, dnV b l0), (1, .int l1), (2, .int l2), (3, .int l3), (5, .int q55.1), (7, .int v12), (8, .int s.1), (9, .int s.2)]) (fun q => [(0, dnV b l0), (2, .int l2), (3, .int l3), (5, .int q55.1), (7, .int v12)]) (fun s165 K165 E165 hK165 hE165 => ?_) (fun q165 => ?_) 1000 (0, 0)
          · unfold fX13_flatDeed_b165
            have hj232 : ∀ (l8 : Int32) (l9 : Int32), jX13_flatDeed w x b 232 0 0 [(0, dnV b l0), (1, .int l1), (2, .int l2), (3, .int l3), (5, .int q55.1), (7, .int v12), (8, .int l8), (9, .int l9)] [] (dnB (fX13_flatDeed_j232 l0 l1 l2 l3 q55.1 v12 l8 l9) (dnKo K165 E165)) := by
              intro l8 l9
              unfold fX13_flatDeed_j232
              refine dn_iinc (pc := 232) (l9 + 1) 7 dX13_flatDeed_232 rfl rfl (Nat.le_of_ble_eq_true rfl) (dnKp_nb 6 rfl rfl rfl (dnKp_of (lv2 := [(0, dnV b l0), (1, .int l1), (2, .int l2), (3, .int l3), (5, .int q55.1), (7, .int v12)]) [0, 1, 2, 3, 4, 5] rfl rfl)) ?_
              refine dn_goto (pc := 235) 165 dX13_flatDeed_235 rfl ?_
              refine dn_leaf ?_
              exact dn_lv [2, 3, 4, 5, 6, 7, 1, 0] rfl (hK165 (l8, (l9 + 1)))
            refine dn_iload (pc := 165) 7 dX13_flatDeed_165 rfl ?_
            refine dn_aload_n (pc := 167) l0 0 dX13_flatDeed_167 rfl ?_
            refine dn_getR (pc := 168) l0 lRX13_17 dX13_flatDeed_168 (fun v13 => ?_)
            refine dn_iload_n (pc := 171) 1 dX13_flatDeed_171 rfl ?_
            refine dn_iald (pc := 172) v13 dX13_flatDeed_172 (fun v14 => ?_)
            refine dn_icmp_ge (pc := 173) 238 dX13_flatDeed_173 rfl (fun _ => ?_) (fun _ => ?_)
            · refine dn_leaf ?_
              exact dn_lv [0, 2, 3, 4, 5] rfl (hE165 ())
            · refine dn_iconst (pc := 176) (v := 0) dX13_flatDeed_176 rfl ?_
              refine dn_istore (pc := 177) dX13_flatDeed_177 (Nat.le_of_ble_eq_true rfl) (dnKp_nb 7 rfl rfl rfl (dnKp_of (lv2 := [(0, dnV b l0), (1, .int l1), (2, .int l2), (3, .int l3), (5, .int q55.1), (7, .int v12), (8, .int s165.1)]) [0, 1, 2, 3, 4, 5, 6] rfl rfl)) ?_
              refine dn_assoc ?_
              refine dn_lv [2, 3, 4, 5, 6, 7, 8, 1, 0] (lv2 := (fun s => [(0, dnV b l0), (1, .int l1), (2, .int l2), (3, .int l3), (5, .int q55.1), (7, .int v12), (8, .int s.1), (9, .int s165.2), (10, .int s.2)]) (s165.1, 0)) rfl ?_
              refine dn_loopE (pc := 179) (body := fX13_flatDeed_b179 l0 l1 l2 l3 q55.1 v12 s165.2) 232 (fun s => [(0, dnV b l0), (1, .int l1), (2, .int l2), (3, .int l3), (5, .int q55.1), (7, .int v12), (8, .int s.1), (9, .int s165.2), (10, .int s.2)]) (fun q => [(0, dnV b l0), (1, .int l1), (2, .int l2), (3, .int l3), (5, .int q55.1), (7, .int v12), (8, .int q), (9, .int s165.2)]) (fun s179 K179 E179 hK179 hE179 => ?_) (fun q179 => ?_) 1000 (s165.1, 0)
              · unfold fX13_flatDeed_b179
                refine dn_aload_n (pc := 179) l0 0 dX13_flatDeed_179 rfl ?_
                refine dn_iload_n (pc := 180) 1 dX13_flatDeed_180 rfl ?_
                refine dn_iload (pc := 181) 7 dX13_flatDeed_181 rfl ?_
                refine dn_callV0Z (pc := 183) [.int l1, .int s165.2] l0 kRX13_336 (mX13_isRow w x b l0 l1 s165.2) rfl rfl (Nat.le_of_ble_eq_true rfl) ⟨(Nat.le_of_ble_eq_true rfl), (Nat.le_of_ble_eq_true rfl)⟩ ⟨rfl, rfl, (Nat.le_of_ble_eq_true rfl), (Nat.le_of_ble_eq_true rfl)⟩ dX13_flatDeed_183 (fun v15 => ?_)
                refine dn_ifz_eq (pc := 186) 232 dX13_flatDeed_186 rfl (fun _ => ?_) (fun _ => ?_)
                · refine dn_iload (pc := 189) 8 dX13_flatDeed_189 rfl ?_
                  refine dn_aload_n (pc := 191) l0 0 dX13_flatDeed_191 rfl ?_
                  refine dn_getR (pc := 192) l0 lRX13_26 dX13_flatDeed_192 (fun v16 => ?_)
                  refine dn_aload_n (pc := 195) l0 0 dX13_flatDeed_195 rfl ?_
                  refine dn_iload_n (pc := 196) 1 dX13_flatDeed_196 rfl ?_
                  refine dn_iload (pc := 197) 7 dX13_flatDeed_197 rfl ?_
                  refine dn_callV0I (pc := 199) [.int l1, .int s165.2] l0 kRX13_128 (mX13_held w x b l0 l1 s165.2) rfl rfl (Nat.le_of_ble_eq_true rfl) ⟨(Nat.le_of_ble_eq_true rfl), (Nat.le_of_ble_eq_true rfl)⟩ ⟨rfl, rfl, (Nat.le_of_ble_eq_true rfl), (Nat.le_of_ble_eq_true rfl)⟩ dX13_flatDeed_199 (fun v17 => ?_)
                  refine dn_iald (pc := 202) v16 dX13_flatDeed_202 (fun v18 => ?_)
                  refine dn_icmp_ge (pc := 203) 232 dX13_flatDeed_203 rfl (fun _ => ?_) (fun _ => ?_)
                  · refine dn_leaf ?_
                    exact dn_lv [0, 1, 2, 3, 4, 5, 6, 7] rfl (hE179 s179.1)
                  · refine dn_aload_n (pc := 206) l0 0 dX13_flatDeed_206 rfl ?_
                    refine dn_aload_n (pc := 207) l0 0 dX13_flatDeed_207 rfl ?_
                    refine dn_iload_n (pc := 208) 1 dX13_flatDeed_208 rfl ?_
                    refine dn_iload (pc := 209) 7 dX13_flatDeed_209 rfl ?_
                    refine dn_callV0I (pc := 211) [.int l1, .int s165.2] l0 kRX13_128 (mX13_held w x b l0 l1 s165.2) rfl rfl (Nat.le_of_ble_eq_true rfl) ⟨(Nat.le_of_ble_eq_true rfl), (Nat.le_of_ble_eq_true rfl)⟩ ⟨rfl, rfl, (Nat.le_of_ble_eq_true rfl), (Nat.le_of_ble_eq_true rfl)⟩ dX13_flatDeed_211 (fun v19 => ?_)
                    refine dn_iload (pc := 214) 8 dX13_flatDeed_214 rfl ?_
                    refine dn_iload (pc := 216) 5 dX13_flatDeed_216 rfl ?_
                    refine dn_iload (pc := 218) 6 dX13_flatDeed_218 rfl ?_
                    refine dn_callV0U (pc := 220) [.int v19, .int s179.2, .int v12, .int s179.1] l0 kRX13_280 (mX13_copies w x b l0 v19 s179.2 v12 s179.1) rfl rfl (Nat.le_of_ble_eq_true rfl) ⟨(Nat.le_of_ble_eq_true rfl), (Nat.le_of_ble_eq_true rfl)⟩ ⟨rfl, rfl, (Nat.le_of_ble_eq_true rfl), (Nat.le_of_ble_eq_true rfl)⟩ dX13_flatDeed_220 (fun _ => ?_)
                    refine dn_iinc (pc := 223) (s179.1 + 1) 6 dX13_flatDeed_223 rfl rfl (Nat.le_of_ble_eq_true rfl) (dnKp_nb 5 rfl rfl rfl (dnKp_of (lv2 := [(0, dnV b l0), (1, .int l1), (2, .int l2), (3, .int l3), (5, .int q55.1), (9, .int s165.2), (10, .int s179.2)]) [0, 1, 2, 3, 4, 7, 8] rfl rfl)) ?_
                    refine dn_iinc (pc := 226) (s179.2 + 1) 8 dX13_flatDeed_226 rfl rfl (Nat.le_of_ble_eq_true rfl) (dnKp_nb 7 rfl rfl rfl (dnKp_of (lv2 := [(8, .int (s179.1 + 1)), (7, .int v12), (0, dnV b l0), (1, .int l1), (2, .int l2), (3, .int l3), (5, .int q55.1)]) [0, 1, 2, 3, 4, 5, 6] rfl rfl)) ?_
                    refine dn_goto (pc := 229) 179 dX13_flatDeed_229 rfl ?_
                    refine dn_leaf ?_
                    exact dn_lv [4, 5, 6, 7, 8, 3, 2, 1, 0] rfl (hK179 ((s179.1 + 1), (s179.2 + 1)))
                · refine dn_leaf ?_
                  exact dn_lv [0, 1, 2, 3, 4, 5, 6, 7] rfl (hE179 s179.1)
              · exact dn_lv [0, 1, 2, 3, 4, 5, 6, 7] rfl (hj232 q179 s165.2)
          · refine dn_aload_n (pc := 238) l0 0 dX13_flatDeed_238 rfl ?_
            refine dn_iload_n (pc := 239) 1 dX13_flatDeed_239 rfl ?_
            refine dn_iload_n (pc := 240) 2 dX13_flatDeed_240 rfl ?_
            refine dn_iload (pc := 241) 4 dX13_flatDeed_241 rfl ?_
            refine dn_callV0U (pc := 243) [.int l2, .int l3, .int v12] l0 kRX13_145 (mX13_holdsNow w x b l0 l2 l3 v12) rfl rfl (Nat.le_of_ble_eq_true rfl) ⟨(Nat.le_of_ble_eq_true rfl), (Nat.le_of_ble_eq_true rfl)⟩ ⟨rfl, rfl, (Nat.le_of_ble_eq_true rfl), (Nat.le_of_ble_eq_true rfl)⟩ dX13_flatDeed_243 (fun _ => ?_)
            refine dn_iload (pc := 246) 3 dX13_flatDeed_246 rfl ?_
            exact dn_ret (Nat.le_of_ble_eq_true rfl) (Nat.le_of_ble_eq_true rfl) rfl dX13_flatDeed_248
        · refine dn_bipush (pc := 143) (v := -10) dX13_flatDeed_143 rfl ?_
          exact dn_ret (Nat.le_of_ble_eq_true rfl) (Nat.le_of_ble_eq_true rfl) rfl dX13_flatDeed_145
    · refine dn_iload (pc := 43) 0 dX13_flatDeed_43 rfl ?_
      exact dn_ret (Nat.le_of_ble_eq_true rfl) (Nat.le_of_ble_eq_true rfl) rfl dX13_flatDeed_45
  refine dn_iload_n (pc := 0) 1 dX13_flatDeed_0 rfl ?_
  refine dn_callS0Z (pc := 1) [.int p1]  kRX13_134 (mX13_isGrid w x b p1) rfl rfl (Nat.le_of_ble_eq_true rfl) ⟨(Nat.le_of_ble_eq_true rfl), (Nat.le_of_ble_eq_true rfl)⟩ ⟨rfl, rfl, (Nat.le_of_ble_eq_true rfl), (Nat.le_of_ble_eq_true rfl)⟩ dX13_flatDeed_1 (fun v22 => ?_)
  refine dn_ifz_eq (pc := 4) 14 dX13_flatDeed_4 rfl (fun _ => ?_) (fun _ => ?_)
  · refine dn_iload_n (pc := 7) 2 dX13_flatDeed_7 rfl ?_
    refine dn_callS0Z (pc := 8) [.int p2]  kRX13_134 (mX13_isGrid w x b p2) rfl rfl (Nat.le_of_ble_eq_true rfl) ⟨(Nat.le_of_ble_eq_true rfl), (Nat.le_of_ble_eq_true rfl)⟩ ⟨rfl, rfl, (Nat.le_of_ble_eq_true rfl), (Nat.le_of_ble_eq_true rfl)⟩ dX13_flatDeed_8 (fun v23 => ?_)
    refine dn_ifz_ne (pc := 11) 16 dX13_flatDeed_11 rfl (fun _ => ?_) (fun _ => ?_)
    · refine dn_aload_n (pc := 16) r0 0 dX13_flatDeed_16 rfl ?_
      refine dn_getR (pc := 17) r0 lRX13_17 dX13_flatDeed_17 (fun v24 => ?_)
      refine dn_iload_n (pc := 20) 1 dX13_flatDeed_20 rfl ?_
      refine dn_iald (pc := 21) v24 dX13_flatDeed_21 (fun v25 => ?_)
      refine dn_if_ge (pc := 22) 30 dX13_flatDeed_22 rfl (fun _ => ?_) (fun _ => ?_)
      · refine dn_aload_n (pc := 30) r0 0 dX13_flatDeed_30 rfl ?_
        refine dn_iload_n (pc := 31) 2 dX13_flatDeed_31 rfl ?_
        refine dn_iload_n (pc := 32) 3 dX13_flatDeed_32 rfl ?_
        refine dn_callV0I (pc := 33) [.int p2, .int p3] r0 kRX13_124 (mX13_placeFault w x b r0 p2 p3) rfl rfl (Nat.le_of_ble_eq_true rfl) ⟨(Nat.le_of_ble_eq_true rfl), (Nat.le_of_ble_eq_true rfl)⟩ ⟨rfl, rfl, (Nat.le_of_ble_eq_true rfl), (Nat.le_of_ble_eq_true rfl)⟩ dX13_flatDeed_33 (fun v26 => ?_)
        exact dn_lv [0, 1, 2, 3] rfl (hj36 r0 p1 p2 p3 v26)
      · refine dn_bipush (pc := 25) (v := -2) dX13_flatDeed_25 rfl ?_
        refine dn_goto (pc := 27) 36 dX13_flatDeed_27 rfl ?_
        exact dn_lv [0, 1, 2, 3] rfl (hj36 r0 p1 p2 p3 (-2))
    · refine dn_iconst (pc := 14) (v := -1) dX13_flatDeed_14 rfl ?_
      exact dn_ret (Nat.le_of_ble_eq_true rfl) (Nat.le_of_ble_eq_true rfl) rfl dX13_flatDeed_15
  · refine dn_iconst (pc := 14) (v := -1) dX13_flatDeed_14 rfl ?_
    exact dn_ret (Nat.le_of_ble_eq_true rfl) (Nat.le_of_ble_eq_true rfl) rfl dX13_flatDeed_15
abbrev rmX13_fromBy : Room := { frames := 1, cells := 0, slots := 0, locals := 22 }
def fX13_fromBy (r0 : Option Nat) (p1 : Int32) (p2 : Int32) (p3 : Int32) : dnM Unit :=
  dnB (dnGR r0 11 15) fun v1 =>
  dnB (dnAI v1 100 p1) fun v2 =>
  dnB (dnPI r0 11 12 v2) fun _ =>
  dnB (dnGR r0 11 16) fun v3 =>
  dnB (dnAL v3 102 p1) fun v4 =>
  dnB (dnPL r0 11 13 v4) fun _ =>
  dnB (dnGR r0 11 17) fun v5 =>
  dnB (dnAD v5 103 p1) fun v6 =>
  dnB (dnPD r0 11 14 v6) fun _ =>
  dnB (dnCv r0 11 (fX13_lays r0 p2 p3)) fun _ =>
  dnP ()
abbrev jX13_fromBy (w : dnWd) (x : dnX) (b : Nat) := dnD w x b (fun _ => True) cX13_fromBy RX13 4 rmX13_fromBy "fromBy" eU
set_option maxHeartbeats 4000000 in
set_option maxRecDepth 100000 in
theorem mX13_fromBy (w : dnWd) (x : dnX) (b : Nat) (r0 : Option Nat) (p1 : Int32) (p2 : Int32) (p3 : Int32) : dnMt w x b yX13_fromBy cX13_fromBy 4 none rmX13_fromBy eU [dnV b r0, .int p1, .int p2, .int p3] (fX13_fromBy r0 p1 p2 p3) := by
  have hlv : lv_args 0 [dnV b r0, .int p1, .int p2, .int p3] = [(0, dnV b r0), (1, .int p1), (2, .int p2), (3, .int p3)] := by cases r0 <;> rfl
  refine dn_mt (by decide +kernel) roU (by cases r0 <;> exact (Nat.le_of_ble_eq_true rfl)) ?_
  rw [hlv]
  refine dn_top ?_
  show jX13_fromBy w x b 0 0 0 _ [] (dnB _ dnP)
  unfold fX13_fromBy
  refine dn_aload_n (pc := 0) r0 0 dX13_fromBy_0 rfl ?_
  refine dn_aload_n (pc := 1) r0 0 dX13_fromBy_1 rfl ?_
  refine dn_getR (pc := 2) r0 lRX13_43 dX13_fromBy_2 (fun v1 => ?_)
  refine dn_iload_n (pc := 5) 1 dX13_fromBy_5 rfl ?_
  refine dn_iald (pc := 6) v1 dX13_fromBy_6 (fun v2 => ?_)
  refine dn_putI (pc := 7) r0 lRX13_190 dX13_fromBy_7 ?_
  refine dn_aload_n (pc := 10) r0 0 dX13_fromBy_10 rfl ?_
  refine dn_aload_n (pc := 11) r0 0 dX13_fromBy_11 rfl ?_
  refine dn_getR (pc := 12) r0 lRX13_46 dX13_fromBy_12 (fun v3 => ?_)
  refine dn_iload_n (pc := 15) 1 dX13_fromBy_15 rfl ?_
  refine dn_lald (pc := 16) v3 dX13_fromBy_16 (fun v4 => ?_)
  refine dn_putL (pc := 17) r0 lRX13_197 dX13_fromBy_17 ?_
  refine dn_aload_n (pc := 20) r0 0 dX13_fromBy_20 rfl ?_
  refine dn_aload_n (pc := 21) r0 0 dX13_fromBy_21 rfl ?_
  refine dn_getR (pc := 22) r0 lRX13_49 dX13_fromBy_22 (fun v5 => ?_)
  refine dn_iload_n (pc := 25) 1 dX13_fromBy_25 rfl ?_
  refine dn_dald (pc := 26) v5 dX13_fromBy_26 (fun v6 => ?_)
  refine dn_putD (pc := 27) r0 lRX13_193 dX13_fromBy_27 ?_
  refine dn_aload_n (pc := 30) r0 0 dX13_fromBy_30 rfl ?_
  refine dn_iload_n (pc := 31) 2 dX13_fromBy_31 rfl ?_
  refine dn_iload_n (pc := 32) 3 dX13_fromBy_32 rfl ?_
  refine dn_callV0U (pc := 33) [.int p2, .int p3] r0 kRX13_216 (mX13_lays w x b r0 p2 p3) rfl rfl (Nat.le_of_ble_eq_true rfl) ⟨(Nat.le_of_ble_eq_true rfl), (Nat.le_of_ble_eq_true rfl)⟩ ⟨rfl, rfl, (Nat.le_of_ble_eq_true rfl), (Nat.le_of_ble_eq_true rfl)⟩ dX13_fromBy_33 (fun _ => ?_)
  exact dn_ret (Nat.le_of_ble_eq_true rfl) (Nat.le_of_ble_eq_true rfl) rfl dX13_fromBy_36
abbrev rmX13_laysBy : Room := { frames := 0, cells := 0, slots := 0, locals := 0 }
def fX13_laysBy_b2 (c0 : Option Nat) (c1 : Int32) (s2 : Int32) : dnM ((Int32) ⊕ (Unit)) :=
  if 12 ≤ s2 then
  (dnP (.inr ()))
  else
  (dnB (dnGR c0 11 15) fun v1 =>
  dnB (dnGR c0 11 9) fun v2 =>
  dnB (dnAI v2 100 ((12 * c1) + s2)) fun v3 =>
  dnB (dnTI v1 100 s2 v3) fun _ =>
  dnB (dnGR c0 11 16) fun v4 =>
  dnB (dnGR c0 11 10) fun v5 =>
  dnB (dnAL v5 102 ((12 * c1) + s2)) fun v6 =>
  dnB (dnTL v4 102 s2 v6) fun _ =>
  dnB (dnGR c0 11 17) fun v7 =>
  dnB (dnGR c0 11 11) fun v8 =>
  dnB (dnAD v8 103 ((12 * c1) + s2)) fun v9 =>
  dnB (dnTD v7 103 s2 v9) fun _ =>
  dnP (.inl (s2 + 1)))
def fX13_laysBy (r0 : Option Nat) (p1 : Int32) : dnM Unit :=
  dnB (dnIt 1000 (fX13_laysBy_b2 r0 p1) 0) fun q2 =>
  dnP ()
abbrev jX13_laysBy (w : dnWd) (x : dnX) (b : Nat) := dnD w x b (fun _ => True) cX13_laysBy RX13 3 rmX13_laysBy "laysBy" eU
set_option maxHeartbeats 4000000 in
set_option maxRecDepth 100000 in
theorem mX13_laysBy (w : dnWd) (x : dnX) (b : Nat) (r0 : Option Nat) (p1 : Int32) : dnMt w x b yX13_laysBy cX13_laysBy 3 none rmX13_laysBy eU [dnV b r0, .int p1] (fX13_laysBy r0 p1) := by
  have hlv : lv_args 0 [dnV b r0, .int p1] = [(0, dnV b r0), (1, .int p1)] := by cases r0 <;> rfl
  refine dn_mt (by decide +kernel) roU (by cases r0 <;> exact (Nat.le_of_ble_eq_true rfl)) ?_
  rw [hlv]
  refine dn_top ?_
  show jX13_laysBy w x b 0 0 0 _ [] (dnB _ dnP)
  unfold fX13_laysBy
  refine dn_iconst (pc := 0) (v := 0) dX13_laysBy_0 rfl ?_
  refine dn_istore_n (pc := 1) dX13_laysBy_1 (Nat.le_of_ble_eq_true rfl) (dnKp_nb 1 rfl rfl rfl (dnKp_of (lv2 := [(0, dnV b r0)]) [0] rfl rfl)) ?_
  refine dn_assoc ?_
  refine dn_lv [2, 1, 0] (lv2 := (fun s => [(0, dnV b r0), (1, .int p1), (2, .int s)]) 0) rfl ?_
  refine dn_loopE (pc := 2) (body := fX13_laysBy_b2 r0 p1) 65 (fun s => [(0, dnV b r0), (1, .int p1), (2, .int s)]) (fun q => []) (fun s2 K2 E2 hK2 hE2 => ?_) (fun q2 => ?_) 1000 0
  · unfold fX13_laysBy_b2
    refine dn_iload_n (pc := 2) 2 dX13_laysBy_2 rfl ?_
    refine dn_bipush (pc := 3) (v := 12) dX13_laysBy_3 rfl ?_
    refine dn_icmp_ge (pc := 5) 65 dX13_laysBy_5 rfl (fun _ => ?_) (fun _ => ?_)
    · refine dn_leaf ?_
      exact dn_lv [] rfl (hE2 ())
    · refine dn_aload_n (pc := 8) r0 0 dX13_laysBy_8 rfl ?_
      refine dn_getR (pc := 9) r0 lRX13_43 dX13_laysBy_9 (fun v1 => ?_)
      refine dn_iload_n (pc := 12) 2 dX13_laysBy_12 rfl ?_
      refine dn_aload_n (pc := 13) r0 0 dX13_laysBy_13 rfl ?_
      refine dn_getR (pc := 14) r0 lRX13_32 dX13_laysBy_14 (fun v2 => ?_)
      refine dn_bipush (pc := 17) (v := 12) dX13_laysBy_17 rfl ?_
      refine dn_iload_n (pc := 19) 1 dX13_laysBy_19 rfl ?_
      refine dn_imul (pc := 20) dX13_laysBy_20 ?_
      refine dn_iload_n (pc := 21) 2 dX13_laysBy_21 rfl ?_
      refine dn_iadd (pc := 22) dX13_laysBy_22 ?_
      refine dn_iald (pc := 23) v2 dX13_laysBy_23 (fun v3 => ?_)
      refine dn_iast (pc := 24) v1 dX13_laysBy_24 ?_
      refine dn_aload_n (pc := 25) r0 0 dX13_laysBy_25 rfl ?_
      refine dn_getR (pc := 26) r0 lRX13_46 dX13_laysBy_26 (fun v4 => ?_)
      refine dn_iload_n (pc := 29) 2 dX13_laysBy_29 rfl ?_
      refine dn_aload_n (pc := 30) r0 0 dX13_laysBy_30 rfl ?_
      refine dn_getR (pc := 31) r0 lRX13_35 dX13_laysBy_31 (fun v5 => ?_)
      refine dn_bipush (pc := 34) (v := 12) dX13_laysBy_34 rfl ?_
      refine dn_iload_n (pc := 36) 1 dX13_laysBy_36 rfl ?_
      refine dn_imul (pc := 37) dX13_laysBy_37 ?_
      refine dn_iload_n (pc := 38) 2 dX13_laysBy_38 rfl ?_
      refine dn_iadd (pc := 39) dX13_laysBy_39 ?_
      refine dn_lald (pc := 40) v5 dX13_laysBy_40 (fun v6 => ?_)
      refine dn_last (pc := 41) v4 dX13_laysBy_41 ?_
      refine dn_aload_n (pc := 42) r0 0 dX13_laysBy_42 rfl ?_
      refine dn_getR (pc := 43) r0 lRX13_49 dX13_laysBy_43 (fun v7 => ?_)
      refine dn_iload_n (pc := 46) 2 dX13_laysBy_46 rfl ?_
      refine dn_aload_n (pc := 47) r0 0 dX13_laysBy_47 rfl ?_
      refine dn_getR (pc := 48) r0 lRX13_39 dX13_laysBy_48 (fun v8 => ?_)
      refine dn_bipush (pc := 51) (v := 12) dX13_laysBy_51 rfl ?_
      refine dn_iload_n (pc := 53) 1 dX13_laysBy_53 rfl ?_
      refine dn_imul (pc := 54) dX13_laysBy_54 ?_
      refine dn_iload_n (pc := 55) 2 dX13_laysBy_55 rfl ?_
      refine dn_iadd (pc := 56) dX13_laysBy_56 ?_
      refine dn_dald (pc := 57) v8 dX13_laysBy_57 (fun v9 => ?_)
      refine dn_dast (pc := 58) v7 dX13_laysBy_58 ?_
      refine dn_iinc (pc := 59) (s2 + 1) 2 dX13_laysBy_59 rfl rfl (Nat.le_of_ble_eq_true rfl) (dnKp_nb 1 rfl rfl rfl (dnKp_of (lv2 := [(0, dnV b r0)]) [0] rfl rfl)) ?_
      refine dn_goto (pc := 62) 2 dX13_laysBy_62 rfl ?_
      refine dn_leaf ?_
      exact dn_lv [2, 1, 0] rfl (hK2 (s2 + 1))
  · exact dn_ret (Nat.le_of_ble_eq_true rfl) (Nat.le_of_ble_eq_true rfl) rfl dX13_laysBy_65
abbrev rmX13_flipDeed : Room := { frames := 3, cells := 0, slots := 0, locals := 68 }
def fX13_flipDeed_b39 (c0 : Option Nat) (c4 : Int32) (s39 : Int32) : dnM ((Int32) ⊕ (Unit)) :=
  dnB (dnGR c0 11 7) fun v5 =>
  dnB (dnAI v5 100 c4) fun v6 =>
  if v6 ≤ s39 then
  (dnP (.inr ()))
  else
  (dnB (dnGR c0 11 7) fun v7 =>
  dnB (dnAI v7 100 c4) fun v8 =>
  dnB (dnCv c0 11 (fX13_fromBy c0 ((v8 - 1) - s39) c4 s39)) fun _ =>
  dnP (.inl (s39 + 1)))
def fX13_flipDeed (r0 : Option Nat) (p1 : Int32) (p2 : Int32) : dnM Int32 :=
  dnB (fX13_isGrid p1) fun v1 =>
  if v1 = true then
  (dnB (dnCv r0 11 (fX13_rowFault r0 p1 p2)) fun v2 =>
  if v2 = 0 then
  (dnB (dnCv r0 11 (fX13_held r0 p1 p2)) fun v3 =>
  dnB (dnCv r0 11 (fX13_laysBy r0 v3)) fun _ =>
  dnB (dnIt 1000 (fX13_flipDeed_b39 r0 v3) 0) fun q39 =>
  dnB (dnGR r0 11 7) fun v10 =>
  dnB (dnAI v10 100 v3) fun v11 =>
  dnP v11)
  else
  (dnP v2))
  else
  (dnP (-1))
abbrev jX13_flipDeed (w : dnWd) (x : dnX) (b : Nat) := dnD w x b (fun _ => True) cX13_flipDeed RX13 6 rmX13_flipDeed "flipDeed" eI
set_option maxHeartbeats 4000000 in
set_option maxRecDepth 100000 in
theorem mX13_flipDeed (w : dnWd) (x : dnX) (b : Nat) (r0 : Option Nat) (p1 : Int32) (p2 : Int32) : dnMt w x b yX13_flipDeed cX13_flipDeed 6 (some .int) rmX13_flipDeed eI [dnV b r0, .int p1, .int p2] (fX13_flipDeed r0 p1 p2) := by
  have hlv : lv_args 0 [dnV b r0, .int p1, .int p2] = [(0, dnV b r0), (1, .int p1), (2, .int p2)] := by cases r0 <;> rfl
  refine dn_mt (by decide +kernel) roI (by cases r0 <;> exact (Nat.le_of_ble_eq_true rfl)) ?_
  rw [hlv]
  refine dn_top ?_
  show jX13_flipDeed w x b 0 0 0 _ [] (dnB _ dnP)
  unfold fX13_flipDeed
  refine dn_iload_n (pc := 0) 1 dX13_flipDeed_0 rfl ?_
  refine dn_callS0Z (pc := 1) [.int p1]  kRX13_134 (mX13_isGrid w x b p1) rfl rfl (Nat.le_of_ble_eq_true rfl) ⟨(Nat.le_of_ble_eq_true rfl), (Nat.le_of_ble_eq_true rfl)⟩ ⟨rfl, rfl, (Nat.le_of_ble_eq_true rfl), (Nat.le_of_ble_eq_true rfl)⟩ dX13_flipDeed_1 (fun v1 => ?_)
  refine dn_ifz_ne (pc := 4) 9 dX13_flipDeed_4 rfl (fun _ => ?_) (fun _ => ?_)
  · refine dn_aload_n (pc := 9) r0 0 dX13_flipDeed_9 rfl ?_
    refine dn_iload_n (pc := 10) 1 dX13_flipDeed_10 rfl ?_
    refine dn_iload_n (pc := 11) 2 dX13_flipDeed_11 rfl ?_
    refine dn_callV0I (pc := 12) [.int p1, .int p2] r0 kRX13_131 (mX13_rowFault w x b r0 p1 p2) rfl rfl (Nat.le_of_ble_eq_true rfl) ⟨(Nat.le_of_ble_eq_true rfl), (Nat.le_of_ble_eq_true rfl)⟩ ⟨rfl, rfl, (Nat.le_of_ble_eq_true rfl), (Nat.le_of_ble_eq_true rfl)⟩ dX13_flipDeed_12 (fun v2 => ?_)
    refine dn_istore_n (pc := 15) dX13_flipDeed_15 (Nat.le_of_ble_eq_true rfl) (dnKp_nb 2 rfl rfl rfl (dnKp_of (lv2 := [(0, dnV b r0), (1, .int p1)]) [0, 1] rfl rfl)) ?_
    refine dn_iload_n (pc := 16) 0 dX13_flipDeed_16 rfl ?_
    refine dn_if_eq (pc := 17) 22 dX13_flipDeed_17 rfl (fun _ => ?_) (fun _ => ?_)
    · refine dn_aload_n (pc := 22) r0 2 dX13_flipDeed_22 rfl ?_
      refine dn_iload_n (pc := 23) 3 dX13_flipDeed_23 rfl ?_
      refine dn_iload_n (pc := 24) 1 dX13_flipDeed_24 rfl ?_
      refine dn_callV0I (pc := 25) [.int p1, .int p2] r0 kRX13_128 (mX13_held w x b r0 p1 p2) rfl rfl (Nat.le_of_ble_eq_true rfl) ⟨(Nat.le_of_ble_eq_true rfl), (Nat.le_of_ble_eq_true rfl)⟩ ⟨rfl, rfl, (Nat.le_of_ble_eq_true rfl), (Nat.le_of_ble_eq_true rfl)⟩ dX13_flipDeed_25 (fun v3 => ?_)
      refine dn_istore (pc := 28) dX13_flipDeed_28 (Nat.le_of_ble_eq_true rfl) (dnKp_of (lv2 := [(0, dnV b r0)]) [2] rfl rfl) ?_
      refine dn_aload_n (pc := 30) r0 1 dX13_flipDeed_30 rfl ?_
      refine dn_iload (pc := 31) 0 dX13_flipDeed_31 rfl ?_
      refine dn_callV0U (pc := 33) [.int v3] r0 kRX13_300 (mX13_laysBy w x b r0 v3) rfl rfl (Nat.le_of_ble_eq_true rfl) ⟨(Nat.le_of_ble_eq_true rfl), (Nat.le_of_ble_eq_true rfl)⟩ ⟨rfl, rfl, (Nat.le_of_ble_eq_true rfl), (Nat.le_of_ble_eq_true rfl)⟩ dX13_flipDeed_33 (fun _ => ?_)
      refine dn_iconst (pc := 36) (v := 0) dX13_flipDeed_36 rfl ?_
      refine dn_istore (pc := 37) dX13_flipDeed_37 (Nat.le_of_ble_eq_true rfl) (dnKp_nb 0 rfl rfl rfl (dnKp_of (lv2 := [(0, dnV b r0)]) [1] rfl rfl)) ?_
      refine dn_assoc ?_
      refine dn_lv [2, 1, 0] (lv2 := (fun s => [(0, dnV b r0), (4, .int v3), (5, .int s)]) 0) rfl ?_
      refine dn_loopE (pc := 39) (body := fX13_flipDeed_b39 r0 v3) 77 (fun s => [(0, dnV b r0), (4, .int v3), (5, .int s)]) (fun q => [(0, dnV b r0), (4, .int v3)]) (fun s39 K39 E39 hK39 hE39 => ?_) (fun q39 => ?_) 1000 0
      · unfold fX13_flipDeed_b39
        refine dn_iload (pc := 39) 2 dX13_flipDeed_39 rfl ?_
        refine dn_aload_n (pc := 41) r0 0 dX13_flipDeed_41 rfl ?_
        refine dn_getR (pc := 42) r0 lRX13_26 dX13_flipDeed_42 (fun v5 => ?_)
        refine dn_iload (pc := 45) 1 dX13_flipDeed_45 rfl ?_
        refine dn_iald (pc := 47) v5 dX13_flipDeed_47 (fun v6 => ?_)
        refine dn_icmp_ge (pc := 48) 77 dX13_flipDeed_48 rfl (fun _ => ?_) (fun _ => ?_)
        · refine dn_leaf ?_
          exact dn_lv [0, 1] rfl (hE39 ())
        · refine dn_aload_n (pc := 51) r0 0 dX13_flipDeed_51 rfl ?_
          refine dn_aload_n (pc := 52) r0 0 dX13_flipDeed_52 rfl ?_
          refine dn_getR (pc := 53) r0 lRX13_26 dX13_flipDeed_53 (fun v7 => ?_)
          refine dn_iload (pc := 56) 1 dX13_flipDeed_56 rfl ?_
          refine dn_iald (pc := 58) v7 dX13_flipDeed_58 (fun v8 => ?_)
          refine dn_iconst (pc := 59) (v := 1) dX13_flipDeed_59 rfl ?_
          refine dn_isub (pc := 60) dX13_flipDeed_60 ?_
          refine dn_iload (pc := 61) 2 dX13_flipDeed_61 rfl ?_
          refine dn_isub (pc := 63) dX13_flipDeed_63 ?_
          refine dn_iload (pc := 64) 1 dX13_flipDeed_64 rfl ?_
          refine dn_iload (pc := 66) 2 dX13_flipDeed_66 rfl ?_
          refine dn_callV0U (pc := 68) [.int ((v8 - 1) - s39), .int v3, .int s39] r0 kRX13_303 (mX13_fromBy w x b r0 ((v8 - 1) - s39) v3 s39) rfl rfl (Nat.le_of_ble_eq_true rfl) ⟨(Nat.le_of_ble_eq_true rfl), (Nat.le_of_ble_eq_true rfl)⟩ ⟨rfl, rfl, (Nat.le_of_ble_eq_true rfl), (Nat.le_of_ble_eq_true rfl)⟩ dX13_flipDeed_68 (fun _ => ?_)
          refine dn_iinc (pc := 71) (s39 + 1) 2 dX13_flipDeed_71 rfl rfl (Nat.le_of_ble_eq_true rfl) (dnKp_nb 1 rfl rfl rfl (dnKp_of (lv2 := [(0, dnV b r0)]) [0] rfl rfl)) ?_
          refine dn_goto (pc := 74) 39 dX13_flipDeed_74 rfl ?_
          refine dn_leaf ?_
          exact dn_lv [2, 1, 0] rfl (hK39 (s39 + 1))
      · refine dn_aload_n (pc := 77) r0 0 dX13_flipDeed_77 rfl ?_
        refine dn_getR (pc := 78) r0 lRX13_26 dX13_flipDeed_78 (fun v10 => ?_)
        refine dn_iload (pc := 81) 1 dX13_flipDeed_81 rfl ?_
        refine dn_iald (pc := 83) v10 dX13_flipDeed_83 (fun v11 => ?_)
        exact dn_ret (Nat.le_of_ble_eq_true rfl) (Nat.le_of_ble_eq_true rfl) rfl dX13_flipDeed_84
    · refine dn_iload_n (pc := 20) 0 dX13_flipDeed_20 rfl ?_
      exact dn_ret (Nat.le_of_ble_eq_true rfl) (Nat.le_of_ble_eq_true rfl) rfl dX13_flipDeed_21
  · refine dn_iconst (pc := 7) (v := -1) dX13_flipDeed_7 rfl ?_
    exact dn_ret (Nat.le_of_ble_eq_true rfl) (Nat.le_of_ble_eq_true rfl) rfl dX13_flipDeed_8
abbrev rmX13_joinDeed : Room := { frames := 4, cells := 0, slots := 0, locals := 93 }
def fX13_joinDeed_j155 (l0 : Option Nat) (l1 : Int32) (l2 : Int32) (l5 : Int32) (l6 : Int32) (l7 : Int32) (l8 : Int32) (l9 : Int32) (s0 : Option Nat) (s1 : Int32) (s2 : Int32) : dnM ((Int32) ⊕ (Unit)) :=
  dnB (dnCv s0 11 (fX13_copies s0 s1 s2 l8 l9)) fun _ =>
  dnP (.inl (l9 + 1))
def fX13_joinDeed_j138 (l0 : Option Nat) (l1 : Int32) (l2 : Int32) (l5 : Int32) (l6 : Int32) (l7 : Int32) (l8 : Int32) (l9 : Int32) (s0 : Option Nat) (s1 : Int32) : dnM ((Int32) ⊕ (Unit)) :=
  if l7 ≤ l9 then
  (fX13_joinDeed_j155 l0 l1 l2 l5 l6 l7 l8 l9 s0 s1 (l9 - l7))
  else
  (fX13_joinDeed_j155 l0 l1 l2 l5 l6 l7 l8 l9 s0 s1 l9)
def fX13_joinDeed_b111 (c0 : Option Nat) (c1 : Int32) (c2 : Int32) (c5 : Int32) (c6 : Int32) (c7 : Int32) (c8 : Int32) (s111 : Int32) : dnM ((Int32) ⊕ (Unit)) :=
  dnB (dnGR c0 11 7) fun v18 =>
  dnB (dnAI v18 100 c8) fun v19 =>
  if v19 ≤ s111 then
  (dnP (.inr ()))
  else
  (if c7 ≤ s111 then
  (fX13_joinDeed_j138 c0 c1 c2 c5 c6 c7 c8 s111 c0 c6)
  else
  (fX13_joinDeed_j138 c0 c1 c2 c5 c6 c7 c8 s111 c0 c5))
def fX13_joinDeed (r0 : Option Nat) (p1 : Int32) (p2 : Int32) (p3 : Int32) : dnM Int32 :=
  dnB (fX13_isGrid p1) fun v1 =>
  if v1 = true then
  (dnB (dnCv r0 11 (fX13_twoRows r0 p1 p2 p1 p3)) fun v2 =>
  if v2 = 0 then
  (dnB (dnCv r0 11 (fX13_held r0 p1 p2)) fun v3 =>
  dnB (dnCv r0 11 (fX13_held r0 p1 p3)) fun v4 =>
  dnB (dnGR r0 11 7) fun v5 =>
  dnB (dnAI v5 100 v3) fun v6 =>
  dnB (dnGR r0 11 7) fun v7 =>
  dnB (dnAI v7 100 v4) fun v8 =>
  if (v6 + v8) ≤ 12 then
  (dnB (dnGR r0 11 6) fun v9 =>
  dnB (dnAI v9 100 v3) fun v10 =>
  dnB (dnGR r0 11 6) fun v11 =>
  dnB (dnAI v11 100 v4) fun v12 =>
  dnB (fX13_leastKind ((1 <<< (v10 &&& 31)) ||| (1 <<< (v12 &&& 31)))) fun v13 =>
  dnB (dnGR r0 11 7) fun v14 =>
  dnB (dnAI v14 100 v4) fun v15 =>
  dnB (dnCv r0 11 (fX13_newRow r0 v13 (v6 + v15))) fun v16 =>
  dnB (dnIt 1000 (fX13_joinDeed_b111 r0 p1 p2 v3 v4 v6 v16) 0) fun q111 =>
  dnB (dnCv r0 11 (fX13_holdsNow r0 p1 p2 v16)) fun _ =>
  dnB (dnGR r0 11 7) fun v21 =>
  dnB (dnAI v21 100 v16) fun v22 =>
  dnP v22)
  else
  (dnP (-10)))
  else
  (dnP v2))
  else
  (dnP (-1))
abbrev jX13_joinDeed (w : dnWd) (x : dnX) (b : Nat) := dnD w x b (fun _ => True) cX13_joinDeed RX13 10 rmX13_joinDeed "joinDeed" eI
set_option maxHeartbeats 4000000 in
set_option maxRecDepth 100000 in
theorem mX13_joinDeed (w : dnWd) (x : dnX) (b : Nat) (r0 : Option Nat) (p1 : Int32) (p2 : Int32) (p3 : Int32) : dnMt w x b yX13_joinDeed cX13_joinDeed 10 (some .int) rmX13_joinDeed eI [dnV b r0, .int p1, .int p2, .int p3] (fX13_joinDeed r0 p1 p2 p3) := by
  have hlv : lv_args 0 [dnV b r0, .int p1, .int p2, .int p3] = [(0, dnV b r0), (1, .int p1), (2, .int p2), (3, .int p3)] := by cases r0 <;> rfl
  refine dn_mt (by decide +kernel) roI (by cases r0 <;> exact (Nat.le_of_ble_eq_true rfl)) ?_
  rw [hlv]
  refine dn_top ?_
  show jX13_joinDeed w x b 0 0 0 _ [] (dnB _ dnP)
  unfold fX13_joinDeed
  refine dn_iload_n (pc := 0) 1 dX13_joinDeed_0 rfl ?_
  refine dn_callS0Z (pc := 1) [.int p1]  kRX13_134 (mX13_isGrid w x b p1) rfl rfl (Nat.le_of_ble_eq_true rfl) ⟨(Nat.le_of_ble_eq_true rfl), (Nat.le_of_ble_eq_true rfl)⟩ ⟨rfl, rfl, (Nat.le_of_ble_eq_true rfl), (Nat.le_of_ble_eq_true rfl)⟩ dX13_joinDeed_1 (fun v1 => ?_)
  refine dn_ifz_ne (pc := 4) 9 dX13_joinDeed_4 rfl (fun _ => ?_) (fun _ => ?_)
  · refine dn_aload_n (pc := 9) r0 0 dX13_joinDeed_9 rfl ?_
    refine dn_iload_n (pc := 10) 1 dX13_joinDeed_10 rfl ?_
    refine dn_iload_n (pc := 11) 2 dX13_joinDeed_11 rfl ?_
    refine dn_iload_n (pc := 12) 1 dX13_joinDeed_12 rfl ?_
    refine dn_iload_n (pc := 13) 3 dX13_joinDeed_13 rfl ?_
    refine dn_callV0I (pc := 14) [.int p1, .int p2, .int p1, .int p3] r0 kRX13_181 (mX13_twoRows w x b r0 p1 p2 p1 p3) rfl rfl (Nat.le_of_ble_eq_true rfl) ⟨(Nat.le_of_ble_eq_true rfl), (Nat.le_of_ble_eq_true rfl)⟩ ⟨rfl, rfl, (Nat.le_of_ble_eq_true rfl), (Nat.le_of_ble_eq_true rfl)⟩ dX13_joinDeed_14 (fun v2 => ?_)
    refine dn_istore (pc := 17) dX13_joinDeed_17 (Nat.le_of_ble_eq_true rfl) (dnKp_nb 3 rfl rfl rfl (dnKp_of (lv2 := [(0, dnV b r0), (1, .int p1), (2, .int p2)]) [0, 1, 2] rfl rfl)) ?_
    refine dn_iload (pc := 19) 0 dX13_joinDeed_19 rfl ?_
    refine dn_if_eq (pc := 21) 27 dX13_joinDeed_21 rfl (fun _ => ?_) (fun _ => ?_)
    · refine dn_aload_n (pc := 27) r0 2 dX13_joinDeed_27 rfl ?_
      refine dn_iload_n (pc := 28) 3 dX13_joinDeed_28 rfl ?_
      refine dn_iload_n (pc := 29) 4 dX13_joinDeed_29 rfl ?_
      refine dn_callV0I (pc := 30) [.int p1, .int p2] r0 kRX13_128 (mX13_held w x b r0 p1 p2) rfl rfl (Nat.le_of_ble_eq_true rfl) ⟨(Nat.le_of_ble_eq_true rfl), (Nat.le_of_ble_eq_true rfl)⟩ ⟨rfl, rfl, (Nat.le_of_ble_eq_true rfl), (Nat.le_of_ble_eq_true rfl)⟩ dX13_joinDeed_30 (fun v3 => ?_)
      refine dn_istore (pc := 33) dX13_joinDeed_33 (Nat.le_of_ble_eq_true rfl) (dnKp_of (lv2 := [(3, .int p3), (0, dnV b r0), (1, .int p1), (2, .int p2)]) [1, 2, 3, 4] rfl rfl) ?_
      refine dn_aload_n (pc := 35) r0 2 dX13_joinDeed_35 rfl ?_
      refine dn_iload_n (pc := 36) 3 dX13_joinDeed_36 rfl ?_
      refine dn_iload_n (pc := 37) 1 dX13_joinDeed_37 rfl ?_
      refine dn_callV0I (pc := 38) [.int p1, .int p3] r0 kRX13_128 (mX13_held w x b r0 p1 p3) rfl rfl (Nat.le_of_ble_eq_true rfl) ⟨(Nat.le_of_ble_eq_true rfl), (Nat.le_of_ble_eq_true rfl)⟩ ⟨rfl, rfl, (Nat.le_of_ble_eq_true rfl), (Nat.le_of_ble_eq_true rfl)⟩ dX13_joinDeed_38 (fun v4 => ?_)
      refine dn_istore (pc := 41) dX13_joinDeed_41 (Nat.le_of_ble_eq_true rfl) (dnKp_nb 0 rfl rfl rfl (dnKp_of (lv2 := [(0, dnV b r0), (1, .int p1), (2, .int p2)]) [2, 3, 4] rfl rfl)) ?_
      refine dn_aload_n (pc := 43) r0 2 dX13_joinDeed_43 rfl ?_
      refine dn_getR (pc := 44) r0 lRX13_26 dX13_joinDeed_44 (fun v5 => ?_)
      refine dn_iload (pc := 47) 1 dX13_joinDeed_47 rfl ?_
      refine dn_iald (pc := 49) v5 dX13_joinDeed_49 (fun v6 => ?_)
      refine dn_istore (pc := 50) dX13_joinDeed_50 (Nat.le_of_ble_eq_true rfl) (dnKp_nb 0 rfl rfl rfl (dnKp_of (lv2 := [(5, .int v3), (0, dnV b r0), (1, .int p1), (2, .int p2)]) [1, 2, 3, 4] rfl rfl)) ?_
      refine dn_iload (pc := 52) 0 dX13_joinDeed_52 rfl ?_
      refine dn_aload_n (pc := 54) r0 3 dX13_joinDeed_54 rfl ?_
      refine dn_getR (pc := 55) r0 lRX13_26 dX13_joinDeed_55 (fun v7 => ?_)
      refine dn_iload (pc := 58) 1 dX13_joinDeed_58 rfl ?_
      refine dn_iald (pc := 60) v7 dX13_joinDeed_60 (fun v8 => ?_)
      refine dn_iadd (pc := 61) dX13_joinDeed_61 ?_
      refine dn_bipush (pc := 62) (v := 12) dX13_joinDeed_62 rfl ?_
      refine dn_icmp_le (pc := 64) 70 dX13_joinDeed_64 rfl (fun _ => ?_) (fun _ => ?_)
      · refine dn_aload_n (pc := 70) r0 3 dX13_joinDeed_70 rfl ?_
        refine dn_iconst (pc := 71) (v := 1) dX13_joinDeed_71 rfl ?_
        refine dn_aload_n (pc := 72) r0 3 dX13_joinDeed_72 rfl ?_
        refine dn_getR (pc := 73) r0 lRX13_23 dX13_joinDeed_73 (fun v9 => ?_)
        refine dn_iload (pc := 76) 2 dX13_joinDeed_76 rfl ?_
        refine dn_iald (pc := 78) v9 dX13_joinDeed_78 (fun v10 => ?_)
        refine dn_ishl (pc := 79) dX13_joinDeed_79 ?_
        refine dn_iconst (pc := 80) (v := 1) dX13_joinDeed_80 rfl ?_
        refine dn_aload_n (pc := 81) r0 3 dX13_joinDeed_81 rfl ?_
        refine dn_getR (pc := 82) r0 lRX13_23 dX13_joinDeed_82 (fun v11 => ?_)
        refine dn_iload (pc := 85) 1 dX13_joinDeed_85 rfl ?_
        refine dn_iald (pc := 87) v11 dX13_joinDeed_87 (fun v12 => ?_)
        refine dn_ishl (pc := 88) dX13_joinDeed_88 ?_
        refine dn_ior (pc := 89) dX13_joinDeed_89 ?_
        refine dn_callS0I (pc := 90) [.int ((1 <<< (v10 &&& 31)) ||| (1 <<< (v12 &&& 31)))]  kRX13_294 (mX13_leastKind w x b ((1 <<< (v10 &&& 31)) ||| (1 <<< (v12 &&& 31)))) rfl rfl (Nat.le_of_ble_eq_true rfl) ⟨(Nat.le_of_ble_eq_true rfl), (Nat.le_of_ble_eq_true rfl)⟩ ⟨rfl, rfl, (Nat.le_of_ble_eq_true rfl), (Nat.le_of_ble_eq_true rfl)⟩ dX13_joinDeed_90 (fun v13 => ?_)
        refine dn_iload (pc := 93) 0 dX13_joinDeed_93 rfl ?_
        refine dn_aload_n (pc := 95) r0 3 dX13_joinDeed_95 rfl ?_
        refine dn_getR (pc := 96) r0 lRX13_26 dX13_joinDeed_96 (fun v14 => ?_)
        refine dn_iload (pc := 99) 1 dX13_joinDeed_99 rfl ?_
        refine dn_iald (pc := 101) v14 dX13_joinDeed_101 (fun v15 => ?_)
        refine dn_iadd (pc := 102) dX13_joinDeed_102 ?_
        refine dn_callV0I (pc := 103) [.int v13, .int (v6 + v15)] r0 kRX13_155 (mX13_newRow w x b r0 v13 (v6 + v15)) rfl rfl (Nat.le_of_ble_eq_true rfl) ⟨(Nat.le_of_ble_eq_true rfl), (Nat.le_of_ble_eq_true rfl)⟩ ⟨rfl, rfl, (Nat.le_of_ble_eq_true rfl), (Nat.le_of_ble_eq_true rfl)⟩ dX13_joinDeed_103 (fun v16 => ?_)
        refine dn_istore (pc := 106) dX13_joinDeed_106 (Nat.le_of_ble_eq_true rfl) (dnKp_nb 0 rfl rfl rfl (dnKp_of (lv2 := [(6, .int v4), (5, .int v3), (0, dnV b r0), (1, .int p1), (2, .int p2)]) [1, 2, 3, 4, 5] rfl rfl)) ?_
        refine dn_iconst (pc := 108) (v := 0) dX13_joinDeed_108 rfl ?_
        refine dn_istore (pc := 109) dX13_joinDeed_109 (Nat.le_of_ble_eq_true rfl) (dnKp_nb 0 rfl rfl rfl (dnKp_of (lv2 := [(7, .int v6), (6, .int v4), (5, .int v3), (0, dnV b r0), (1, .int p1), (2, .int p2)]) [1, 2, 3, 4, 5, 6] rfl rfl)) ?_
        refine dn_assoc ?_
        refine dn_lv [5, 6, 7, 4, 3, 2, 1, 0] (lv2 := (fun s => [(0, dnV b r0), (1, .int p1), (2, .int p2), (5, .int v3), (6, .int v4), (7, .int v6), (8, .int v16), (9, .int s)]) 0) rfl ?_
        refine dn_loopE (pc := 111) (body := fX13_joinDeed_b111 r0 p1 p2 v3 v4 v6 v16) 168 (fun s => [(0, dnV b r0), (1, .int p1), (2, .int p2), (5, .int v3), (6, .int v4), (7, .int v6), (8, .int v16), (9, .int s)]) (fun q => [(0, dnV b r0), (1, .int p1), (2, .int p2), (8, .int v16)]) (fun s111 K111 E111 hK111 hE111 => ?_) (fun q111 => ?_) 1000 0
        · unfold fX13_joinDeed_b111
          have hj155 : ∀ (l9 : Int32) (s0 : Option Nat) (s1 : Int32) (s2 : Int32), jX13_joinDeed w x b 155 0 0 [(0, dnV b r0), (1, .int p1), (2, .int p2), (5, .int v3), (6, .int v4), (7, .int v6), (8, .int v16), (9, .int l9)] [.int s2, .int s1, dnV b s0] (dnB (fX13_joinDeed_j155 r0 p1 p2 v3 v4 v6 v16 l9 s0 s1 s2) (dnKo K111 E111)) := by
            intro l9 s0 s1 s2
            unfold fX13_joinDeed_j155
            refine dn_iload (pc := 155) 6 dX13_joinDeed_155 rfl ?_
            refine dn_iload (pc := 157) 7 dX13_joinDeed_157 rfl ?_
            refine dn_callV0U (pc := 159) [.int s1, .int s2, .int v16, .int l9] s0 kRX13_280 (mX13_copies w x b s0 s1 s2 v16 l9) rfl rfl (Nat.le_of_ble_eq_true rfl) ⟨(Nat.le_of_ble_eq_true rfl), (Nat.le_of_ble_eq_true rfl)⟩ ⟨rfl, rfl, (Nat.le_of_ble_eq_true rfl), (Nat.le_of_ble_eq_true rfl)⟩ dX13_joinDeed_159 (fun _ => ?_)
            refine dn_iinc (pc := 162) (l9 + 1) 7 dX13_joinDeed_162 rfl rfl (Nat.le_of_ble_eq_true rfl) (dnKp_nb 6 rfl rfl rfl (dnKp_of (lv2 := [(0, dnV b r0), (1, .int p1), (2, .int p2), (5, .int v3), (6, .int v4), (7, .int v6)]) [0, 1, 2, 3, 4, 5] rfl rfl)) ?_
            refine dn_goto (pc := 165) 111 dX13_joinDeed_165 rfl ?_
            refine dn_leaf ?_
            exact dn_lv [2, 3, 4, 5, 6, 7, 1, 0] rfl (hK111 (l9 + 1))
          have hj138 : ∀ (l9 : Int32) (s0 : Option Nat) (s1 : Int32), jX13_joinDeed w x b 138 0 0 [(0, dnV b r0), (1, .int p1), (2, .int p2), (5, .int v3), (6, .int v4), (7, .int v6), (8, .int v16), (9, .int l9)] [.int s1, dnV b s0] (dnB (fX13_joinDeed_j138 r0 p1 p2 v3 v4 v6 v16 l9 s0 s1) (dnKo K111 E111)) := by
            intro l9 s0 s1
            unfold fX13_joinDeed_j138
            refine dn_iload (pc := 138) 7 dX13_joinDeed_138 rfl ?_
            refine dn_iload (pc := 140) 5 dX13_joinDeed_140 rfl ?_
            refine dn_icmp_ge (pc := 142) 150 dX13_joinDeed_142 rfl (fun _ => ?_) (fun _ => ?_)
            · refine dn_iload (pc := 150) 7 dX13_joinDeed_150 rfl ?_
              refine dn_iload (pc := 152) 5 dX13_joinDeed_152 rfl ?_
              refine dn_isub (pc := 154) dX13_joinDeed_154 ?_
              exact dn_lv [0, 1, 2, 3, 4, 5, 6, 7] rfl (hj155 l9 s0 s1 (l9 - v6))
            · refine dn_iload (pc := 145) 7 dX13_joinDeed_145 rfl ?_
              refine dn_goto (pc := 147) 155 dX13_joinDeed_147 rfl ?_
              exact dn_lv [0, 1, 2, 3, 4, 5, 6, 7] rfl (hj155 l9 s0 s1 l9)
          refine dn_iload (pc := 111) 7 dX13_joinDeed_111 rfl ?_
          refine dn_aload_n (pc := 113) r0 0 dX13_joinDeed_113 rfl ?_
          refine dn_getR (pc := 114) r0 lRX13_26 dX13_joinDeed_114 (fun v18 => ?_)
          refine dn_iload (pc := 117) 6 dX13_joinDeed_117 rfl ?_
          refine dn_iald (pc := 119) v18 dX13_joinDeed_119 (fun v19 => ?_)
          refine dn_icmp_ge (pc := 120) 168 dX13_joinDeed_120 rfl (fun _ => ?_) (fun _ => ?_)
          · refine dn_leaf ?_
            exact dn_lv [0, 1, 2, 6] rfl (hE111 ())
          · refine dn_aload_n (pc := 123) r0 0 dX13_joinDeed_123 rfl ?_
            refine dn_iload (pc := 124) 7 dX13_joinDeed_124 rfl ?_
            refine dn_iload (pc := 126) 5 dX13_joinDeed_126 rfl ?_
            refine dn_icmp_ge (pc := 128) 136 dX13_joinDeed_128 rfl (fun _ => ?_) (fun _ => ?_)
            · refine dn_iload (pc := 136) 4 dX13_joinDeed_136 rfl ?_
              exact dn_lv [0, 1, 2, 3, 4, 5, 6, 7] rfl (hj138 s111 r0 v4)
            · refine dn_iload (pc := 131) 3 dX13_joinDeed_131 rfl ?_
              refine dn_goto (pc := 133) 138 dX13_joinDeed_133 rfl ?_
              exact dn_lv [0, 1, 2, 3, 4, 5, 6, 7] rfl (hj138 s111 r0 v3)
        · refine dn_aload_n (pc := 168) r0 0 dX13_joinDeed_168 rfl ?_
          refine dn_iload_n (pc := 169) 1 dX13_joinDeed_169 rfl ?_
          refine dn_iload_n (pc := 170) 2 dX13_joinDeed_170 rfl ?_
          refine dn_iload (pc := 171) 3 dX13_joinDeed_171 rfl ?_
          refine dn_callV0U (pc := 173) [.int p1, .int p2, .int v16] r0 kRX13_145 (mX13_holdsNow w x b r0 p1 p2 v16) rfl rfl (Nat.le_of_ble_eq_true rfl) ⟨(Nat.le_of_ble_eq_true rfl), (Nat.le_of_ble_eq_true rfl)⟩ ⟨rfl, rfl, (Nat.le_of_ble_eq_true rfl), (Nat.le_of_ble_eq_true rfl)⟩ dX13_joinDeed_173 (fun _ => ?_)
          refine dn_aload_n (pc := 176) r0 0 dX13_joinDeed_176 rfl ?_
          refine dn_getR (pc := 177) r0 lRX13_26 dX13_joinDeed_177 (fun v21 => ?_)
          refine dn_iload (pc := 180) 3 dX13_joinDeed_180 rfl ?_
          refine dn_iald (pc := 182) v21 dX13_joinDeed_182 (fun v22 => ?_)
          exact dn_ret (Nat.le_of_ble_eq_true rfl) (Nat.le_of_ble_eq_true rfl) rfl dX13_joinDeed_183
      · refine dn_bipush (pc := 67) (v := -10) dX13_joinDeed_67 rfl ?_
        exact dn_ret (Nat.le_of_ble_eq_true rfl) (Nat.le_of_ble_eq_true rfl) rfl dX13_joinDeed_69
    · refine dn_iload (pc := 24) 0 dX13_joinDeed_24 rfl ?_
      exact dn_ret (Nat.le_of_ble_eq_true rfl) (Nat.le_of_ble_eq_true rfl) rfl dX13_joinDeed_26
  · refine dn_iconst (pc := 7) (v := -1) dX13_joinDeed_7 rfl ?_
    exact dn_ret (Nat.le_of_ble_eq_true rfl) (Nat.le_of_ble_eq_true rfl) rfl dX13_joinDeed_8
