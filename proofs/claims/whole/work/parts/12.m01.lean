abbrev rmJ6_bitCount_0f7a4 : Room := { frames := 0, cells := 0, slots := 0, locals := 0 }
def fJ6_bitCount_0f7a4 (p0 : Int32) : dnM Int32 :=
  dnP ((((((((p0 - ((((p0 : Int32).toUInt32 >>> ((1 : Int32).toUInt32 &&& Int32.toUInt32 31)).toInt32) &&& 1431655765)) &&& 858993459) + (((((p0 - ((((p0 : Int32).toUInt32 >>> ((1 : Int32).toUInt32 &&& Int32.toUInt32 31)).toInt32) &&& 1431655765)) : Int32).toUInt32 >>> ((2 : Int32).toUInt32 &&& Int32.toUInt32 31)).toInt32) &&& 858993459)) + ((((((p0 - ((((p0 : Int32).toUInt32 >>> ((1 : Int32).toUInt32 &&& Int32.toUInt32 31)).toInt32) &&& 1431655765)) &&& 858993459) + (((((p0 - ((((p0 : Int32).toUInt32 >>> ((1 : Int32).toUInt32 &&& Int32.toUInt32 31)).toInt32) &&& 1431655765)) : Int32).toUInt32 >>> ((2 : Int32).toUInt32 &&& Int32.toUInt32 31)).toInt32) &&& 858993459)) : Int32).toUInt32 >>> ((4 : Int32).toUInt32 &&& Int32.toUInt32 31)).toInt32)) &&& 252645135) + ((((((((p0 - ((((p0 : Int32).toUInt32 >>> ((1 : Int32).toUInt32 &&& Int32.toUInt32 31)).toInt32) &&& 1431655765)) &&& 858993459) + (((((p0 - ((((p0 : Int32).toUInt32 >>> ((1 : Int32).toUInt32 &&& Int32.toUInt32 31)).toInt32) &&& 1431655765)) : Int32).toUInt32 >>> ((2 : Int32).toUInt32 &&& Int32.toUInt32 31)).toInt32) &&& 858993459)) + ((((((p0 - ((((p0 : Int32).toUInt32 >>> ((1 : Int32).toUInt32 &&& Int32.toUInt32 31)).toInt32) &&& 1431655765)) &&& 858993459) + (((((p0 - ((((p0 : Int32).toUInt32 >>> ((1 : Int32).toUInt32 &&& Int32.toUInt32 31)).toInt32) &&& 1431655765)) : Int32).toUInt32 >>> ((2 : Int32).toUInt32 &&& Int32.toUInt32 31)).toInt32) &&& 858993459)) : Int32).toUInt32 >>> ((4 : Int32).toUInt32 &&& Int32.toUInt32 31)).toInt32)) &&& 252645135) : Int32).toUInt32 >>> ((8 : Int32).toUInt32 &&& Int32.toUInt32 31)).toInt32)) + (((((((((p0 - ((((p0 : Int32).toUInt32 >>> ((1 : Int32).toUInt32 &&& Int32.toUInt32 31)).toInt32) &&& 1431655765)) &&& 858993459) + (((((p0 - ((((p0 : Int32).toUInt32 >>> ((1 : Int32).toUInt32 &&& Int32.toUInt32 31)).toInt32) &&& 1431655765)) : Int32).toUInt32 >>> ((2 : Int32).toUInt32 &&& Int32.toUInt32 31)).toInt32) &&& 858993459)) + ((((((p0 - ((((p0 : Int32).toUInt32 >>> ((1 : Int32).toUInt32 &&& Int32.toUInt32 31)).toInt32) &&& 1431655765)) &&& 858993459) + (((((p0 - ((((p0 : Int32).toUInt32 >>> ((1 : Int32).toUInt32 &&& Int32.toUInt32 31)).toInt32) &&& 1431655765)) : Int32).toUInt32 >>> ((2 : Int32).toUInt32 &&& Int32.toUInt32 31)).toInt32) &&& 858993459)) : Int32).toUInt32 >>> ((4 : Int32).toUInt32 &&& Int32.toUInt32 31)).toInt32)) &&& 252645135) + ((((((((p0 - ((((p0 : Int32).toUInt32 >>> ((1 : Int32).toUInt32 &&& Int32.toUInt32 31)).toInt32) &&& 1431655765)) &&& 858993459) + (((((p0 - ((((p0 : Int32).toUInt32 >>> ((1 : Int32).toUInt32 &&& Int32.toUInt32 31)).toInt32) &&& 1431655765)) : Int32).toUInt32 >>> ((2 : Int32).toUInt32 &&& Int32.toUInt32 31)).toInt32) &&& 858993459)) + ((((((p0 - ((((p0 : Int32).toUInt32 >>> ((1 : Int32).toUInt32 &&& Int32.toUInt32 31)).toInt32) &&& 1431655765)) &&& 858993459) + (((((p0 - ((((p0 : Int32).toUInt32 >>> ((1 : Int32).toUInt32 &&& Int32.toUInt32 31)).toInt32) &&& 1431655765)) : Int32).toUInt32 >>> ((2 : Int32).toUInt32 &&& Int32.toUInt32 31)).toInt32) &&& 858993459)) : Int32).toUInt32 >>> ((4 : Int32).toUInt32 &&& Int32.toUInt32 31)).toInt32)) &&& 252645135) : Int32).toUInt32 >>> ((8 : Int32).toUInt32 &&& Int32.toUInt32 31)).toInt32)) : Int32).toUInt32 >>> ((16 : Int32).toUInt32 &&& Int32.toUInt32 31)).toInt32)) &&& 63)
abbrev jJ6_bitCount_0f7a4 (w : dnWd) (x : dnX) (b : Nat) := dnD w x b (fun _ => True) cJ6_bitCount_0f7a4 RJ6 1 rmJ6_bitCount_0f7a4 "bitCount" eI
set_option maxHeartbeats 4000000 in
set_option maxRecDepth 100000 in
theorem mJ6_bitCount_0f7a4 (w : dnWd) (x : dnX) (b : Nat) (p0 : Int32) : dnMt w x b yJ6_bitCount_0f7a4 cJ6_bitCount_0f7a4 1 (some .int) rmJ6_bitCount_0f7a4 eI [.int p0] (fJ6_bitCount_0f7a4 p0) := by
  have hlv : lv_args 0 [.int p0] = [(0, .int p0)] := by rfl
  refine dn_mt (by decide +kernel) roI (by exact (Nat.le_of_ble_eq_true rfl)) ?_
  rw [hlv]
  refine dn_top ?_
  show jJ6_bitCount_0f7a4 w x b 0 0 0 _ [] (dnB _ dnP)
  unfold fJ6_bitCount_0f7a4
  refine dn_iload_n (pc := 0) 0 dJ6_bitCount_0f7a4_0 rfl ?_
  refine dn_iload_n (pc := 1) 0 dJ6_bitCount_0f7a4_1 rfl ?_
  refine dn_iconst (pc := 2) (v := 1) dJ6_bitCount_0f7a4_2 rfl ?_
  refine dn_iushr (pc := 3) dJ6_bitCount_0f7a4_3 ?_
  refine dn_ldcw (pc := 4) kRJ6_265 dJ6_bitCount_0f7a4_4 ?_
  refine dn_iand (pc := 7) dJ6_bitCount_0f7a4_7 ?_
  refine dn_isub (pc := 8) dJ6_bitCount_0f7a4_8 ?_
  refine dn_istore_n (pc := 9) dJ6_bitCount_0f7a4_9 (Nat.le_of_ble_eq_true rfl) (dnKp_of (lv2 := []) [] rfl rfl) ?_
  refine dn_iload_n (pc := 10) 0 dJ6_bitCount_0f7a4_10 rfl ?_
  refine dn_ldcw (pc := 11) kRJ6_266 dJ6_bitCount_0f7a4_11 ?_
  refine dn_iand (pc := 14) dJ6_bitCount_0f7a4_14 ?_
  refine dn_iload_n (pc := 15) 0 dJ6_bitCount_0f7a4_15 rfl ?_
  refine dn_iconst (pc := 16) (v := 2) dJ6_bitCount_0f7a4_16 rfl ?_
  refine dn_iushr (pc := 17) dJ6_bitCount_0f7a4_17 ?_
  refine dn_ldcw (pc := 18) kRJ6_266 dJ6_bitCount_0f7a4_18 ?_
  refine dn_iand (pc := 21) dJ6_bitCount_0f7a4_21 ?_
  refine dn_iadd (pc := 22) dJ6_bitCount_0f7a4_22 ?_
  refine dn_istore_n (pc := 23) dJ6_bitCount_0f7a4_23 (Nat.le_of_ble_eq_true rfl) (dnKp_of (lv2 := []) [] rfl rfl) ?_
  refine dn_iload_n (pc := 24) 0 dJ6_bitCount_0f7a4_24 rfl ?_
  refine dn_iload_n (pc := 25) 0 dJ6_bitCount_0f7a4_25 rfl ?_
  refine dn_iconst (pc := 26) (v := 4) dJ6_bitCount_0f7a4_26 rfl ?_
  refine dn_iushr (pc := 27) dJ6_bitCount_0f7a4_27 ?_
  refine dn_iadd (pc := 28) dJ6_bitCount_0f7a4_28 ?_
  refine dn_ldcw (pc := 29) kRJ6_267 dJ6_bitCount_0f7a4_29 ?_
  refine dn_iand (pc := 32) dJ6_bitCount_0f7a4_32 ?_
  refine dn_istore_n (pc := 33) dJ6_bitCount_0f7a4_33 (Nat.le_of_ble_eq_true rfl) (dnKp_of (lv2 := []) [] rfl rfl) ?_
  refine dn_iload_n (pc := 34) 0 dJ6_bitCount_0f7a4_34 rfl ?_
  refine dn_iload_n (pc := 35) 0 dJ6_bitCount_0f7a4_35 rfl ?_
  refine dn_bipush (pc := 36) (v := 8) dJ6_bitCount_0f7a4_36 rfl ?_
  refine dn_iushr (pc := 38) dJ6_bitCount_0f7a4_38 ?_
  refine dn_iadd (pc := 39) dJ6_bitCount_0f7a4_39 ?_
  refine dn_istore_n (pc := 40) dJ6_bitCount_0f7a4_40 (Nat.le_of_ble_eq_true rfl) (dnKp_of (lv2 := []) [] rfl rfl) ?_
  refine dn_iload_n (pc := 41) 0 dJ6_bitCount_0f7a4_41 rfl ?_
  refine dn_iload_n (pc := 42) 0 dJ6_bitCount_0f7a4_42 rfl ?_
  refine dn_bipush (pc := 43) (v := 16) dJ6_bitCount_0f7a4_43 rfl ?_
  refine dn_iushr (pc := 45) dJ6_bitCount_0f7a4_45 ?_
  refine dn_iadd (pc := 46) dJ6_bitCount_0f7a4_46 ?_
  refine dn_istore_n (pc := 47) dJ6_bitCount_0f7a4_47 (Nat.le_of_ble_eq_true rfl) (dnKp_of (lv2 := []) [] rfl rfl) ?_
  refine dn_iload_n (pc := 48) 0 dJ6_bitCount_0f7a4_48 rfl ?_
  refine dn_bipush (pc := 49) (v := 63) dJ6_bitCount_0f7a4_49 rfl ?_
  refine dn_iand (pc := 51) dJ6_bitCount_0f7a4_51 ?_
  exact dn_ret (Nat.le_of_ble_eq_true rfl) (Nat.le_of_ble_eq_true rfl) rfl dJ6_bitCount_0f7a4_52
abbrev rmJ7_fill_53178 : Room := { frames := 0, cells := 0, slots := 0, locals := 0 }
def fJ7_fill_53178_b5 (c0 : Option Nat) (c1 : Int32) (c3 : Int32) (s5 : Int32) : dnM ((Int32) ⊕ (Unit)) :=
  if c3 ≤ s5 then
  (dnP (.inr ()))
  else
  (dnB (dnTI c0 100 s5 c1) fun _ =>
  dnP (.inl (s5 + 1)))
def fJ7_fill_53178 (r0 : Option Nat) (p1 : Int32) : dnM Unit :=
  dnB (dnLn r0 100) fun v1 =>
  dnB (dnIt 1000 (fJ7_fill_53178_b5 r0 p1 v1) 0) fun q5 =>
  dnP ()
abbrev jJ7_fill_53178 (w : dnWd) (x : dnX) (b : Nat) := dnD w x b (fun _ => True) cJ7_fill_53178 RJ7 4 rmJ7_fill_53178 "fill" eU
set_option maxHeartbeats 4000000 in
set_option maxRecDepth 100000 in
theorem mJ7_fill_53178 (w : dnWd) (x : dnX) (b : Nat) (r0 : Option Nat) (p1 : Int32) : dnMt w x b yJ7_fill_53178 cJ7_fill_53178 4 none rmJ7_fill_53178 eU [dnV b r0, .int p1] (fJ7_fill_53178 r0 p1) := by
  have hlv : lv_args 0 [dnV b r0, .int p1] = [(0, dnV b r0), (1, .int p1)] := by cases r0 <;> rfl
  refine dn_mt (by decide +kernel) roU (by cases r0 <;> exact (Nat.le_of_ble_eq_true rfl)) ?_
  rw [hlv]
  refine dn_top ?_
  show jJ7_fill_53178 w x b 0 0 0 _ [] (dnB _ dnP)
  unfold fJ7_fill_53178
  refine dn_iconst (pc := 0) (v := 0) dJ7_fill_53178_0 rfl ?_
  refine dn_istore_n (pc := 1) dJ7_fill_53178_1 (Nat.le_of_ble_eq_true rfl) (dnKp_nb 1 rfl rfl rfl (dnKp_of (lv2 := [(0, dnV b r0)]) [0] rfl rfl)) ?_
  refine dn_aload_n (pc := 2) r0 2 dJ7_fill_53178_2 rfl ?_
  refine dn_alen (pc := 3) 0 r0 (by decide) (fun _ => rfl) dJ7_fill_53178_3 (fun v1 => ?_)
  refine dn_istore_n (pc := 4) dJ7_fill_53178_4 (Nat.le_of_ble_eq_true rfl) (dnKp_nb 0 rfl rfl rfl (dnKp_of (lv2 := [(1, .int p1), (0, dnV b r0)]) [1, 2] rfl rfl)) ?_
  refine dn_assoc ?_
  refine dn_lv [3, 2, 1, 0] (lv2 := (fun s => [(0, dnV b r0), (1, .int p1), (2, .int s), (3, .int v1)]) 0) rfl ?_
  refine dn_loopE (pc := 5) (body := fJ7_fill_53178_b5 r0 p1 v1) 20 (fun s => [(0, dnV b r0), (1, .int p1), (2, .int s), (3, .int v1)]) (fun q => []) (fun s5 K5 E5 hK5 hE5 => ?_) (fun q5 => ?_) 1000 0
  · unfold fJ7_fill_53178_b5
    refine dn_iload_n (pc := 5) 2 dJ7_fill_53178_5 rfl ?_
    refine dn_iload_n (pc := 6) 3 dJ7_fill_53178_6 rfl ?_
    refine dn_icmp_ge (pc := 7) 20 dJ7_fill_53178_7 rfl (fun _ => ?_) (fun _ => ?_)
    · refine dn_leaf ?_
      exact dn_lv [] rfl (hE5 ())
    · refine dn_aload_n (pc := 10) r0 0 dJ7_fill_53178_10 rfl ?_
      refine dn_iload_n (pc := 11) 2 dJ7_fill_53178_11 rfl ?_
      refine dn_iload_n (pc := 12) 1 dJ7_fill_53178_12 rfl ?_
      refine dn_iast (pc := 13) r0 dJ7_fill_53178_13 ?_
      refine dn_iinc (pc := 14) (s5 + 1) 2 dJ7_fill_53178_14 rfl rfl (Nat.le_of_ble_eq_true rfl) (dnKp_nb 1 rfl rfl rfl (dnKp_of (lv2 := [(0, dnV b r0), (3, .int v1)]) [0, 3] rfl rfl)) ?_
      refine dn_goto (pc := 17) 5 dJ7_fill_53178_17 rfl ?_
      refine dn_leaf ?_
      exact dn_lv [2, 1, 0, 3] rfl (hK5 (s5 + 1))
  · exact dn_ret (Nat.le_of_ble_eq_true rfl) (Nat.le_of_ble_eq_true rfl) rfl dJ7_fill_53178_20
abbrev rmJ7_fill_7f8df : Room := { frames := 0, cells := 0, slots := 0, locals := 0 }
def fJ7_fill_7f8df_b6 (c0 : Option Nat) (c1 : UInt64) (c4 : Int32) (s6 : Int32) : dnM ((Int32) ⊕ (Unit)) :=
  if c4 ≤ s6 then
  (dnP (.inr ()))
  else
  (dnB (dnTD c0 103 s6 c1) fun _ =>
  dnP (.inl (s6 + 1)))
def fJ7_fill_7f8df (r0 : Option Nat) (p1 : UInt64) : dnM Unit :=
  dnB (dnLn r0 103) fun v1 =>
  dnB (dnIt 1000 (fJ7_fill_7f8df_b6 r0 p1 v1) 0) fun q6 =>
  dnP ()
abbrev jJ7_fill_7f8df (w : dnWd) (x : dnX) (b : Nat) := dnD w x b (fun _ => True) cJ7_fill_7f8df RJ7 5 rmJ7_fill_7f8df "fill" eU
set_option maxHeartbeats 4000000 in
set_option maxRecDepth 100000 in
theorem mJ7_fill_7f8df (w : dnWd) (x : dnX) (b : Nat) (r0 : Option Nat) (p1 : UInt64) : dnMt w x b yJ7_fill_7f8df cJ7_fill_7f8df 5 none rmJ7_fill_7f8df eU [dnV b r0, .double p1] (fJ7_fill_7f8df r0 p1) := by
  have hlv : lv_args 0 [dnV b r0, .double p1] = [(0, dnV b r0), (1, .double p1)] := by cases r0 <;> rfl
  refine dn_mt (by decide +kernel) roU (by cases r0 <;> exact (Nat.le_of_ble_eq_true rfl)) ?_
  rw [hlv]
  refine dn_top ?_
  show jJ7_fill_7f8df w x b 0 0 0 _ [] (dnB _ dnP)
  unfold fJ7_fill_7f8df
  refine dn_iconst (pc := 0) (v := 0) dJ7_fill_7f8df_0 rfl ?_
  refine dn_istore_n (pc := 1) dJ7_fill_7f8df_1 (Nat.le_of_ble_eq_true rfl) (dnKp_of (lv2 := [(0, dnV b r0), (1, .double p1)]) [0, 1] rfl rfl) ?_
  refine dn_aload_n (pc := 2) r0 1 dJ7_fill_7f8df_2 rfl ?_
  refine dn_alen (pc := 3) 3 r0 (by decide) (fun _ => rfl) dJ7_fill_7f8df_3 (fun v1 => ?_)
  refine dn_istore (pc := 4) dJ7_fill_7f8df_4 (Nat.le_of_ble_eq_true rfl) (dnKp_nb 0 rfl rfl rfl (dnKp_of (lv2 := [(0, dnV b r0), (1, .double p1)]) [1, 2] rfl rfl)) ?_
  refine dn_assoc ?_
  refine dn_lv [2, 3, 1, 0] (lv2 := (fun s => [(0, dnV b r0), (1, .double p1), (3, .int s), (4, .int v1)]) 0) rfl ?_
  refine dn_loopE (pc := 6) (body := fJ7_fill_7f8df_b6 r0 p1 v1) 22 (fun s => [(0, dnV b r0), (1, .double p1), (3, .int s), (4, .int v1)]) (fun q => []) (fun s6 K6 E6 hK6 hE6 => ?_) (fun q6 => ?_) 1000 0
  · unfold fJ7_fill_7f8df_b6
    refine dn_iload_n (pc := 6) 2 dJ7_fill_7f8df_6 rfl ?_
    refine dn_iload (pc := 7) 3 dJ7_fill_7f8df_7 rfl ?_
    refine dn_icmp_ge (pc := 9) 22 dJ7_fill_7f8df_9 rfl (fun _ => ?_) (fun _ => ?_)
    · refine dn_leaf ?_
      exact dn_lv [] rfl (hE6 ())
    · refine dn_aload_n (pc := 12) r0 0 dJ7_fill_7f8df_12 rfl ?_
      refine dn_iload_n (pc := 13) 2 dJ7_fill_7f8df_13 rfl ?_
      refine dn_dload_n (pc := 14) 1 dJ7_fill_7f8df_14 rfl ?_
      refine dn_dast (pc := 15) r0 dJ7_fill_7f8df_15 ?_
      refine dn_iinc (pc := 16) (s6 + 1) 2 dJ7_fill_7f8df_16 rfl rfl (Nat.le_of_ble_eq_true rfl) (dnKp_of (lv2 := [(0, dnV b r0), (1, .double p1), (4, .int v1)]) [0, 1, 3] rfl rfl) ?_
      refine dn_goto (pc := 19) 6 dJ7_fill_7f8df_19 rfl ?_
      refine dn_leaf ?_
      exact dn_lv [1, 2, 0, 3] rfl (hK6 (s6 + 1))
  · exact dn_ret (Nat.le_of_ble_eq_true rfl) (Nat.le_of_ble_eq_true rfl) rfl dJ7_fill_7f8df_22
abbrev rmJ7_fill_d0a16 : Room := { frames := 0, cells := 0, slots := 0, locals := 0 }
def fJ7_fill_d0a16_b6 (c0 : Option Nat) (c1 : Int64) (c4 : Int32) (s6 : Int32) : dnM ((Int32) ⊕ (Unit)) :=
  if c4 ≤ s6 then
  (dnP (.inr ()))
  else
  (dnB (dnTL c0 102 s6 c1) fun _ =>
  dnP (.inl (s6 + 1)))
def fJ7_fill_d0a16 (r0 : Option Nat) (p1 : Int64) : dnM Unit :=
  dnB (dnLn r0 102) fun v1 =>
  dnB (dnIt 1000 (fJ7_fill_d0a16_b6 r0 p1 v1) 0) fun q6 =>
  dnP ()
abbrev jJ7_fill_d0a16 (w : dnWd) (x : dnX) (b : Nat) := dnD w x b (fun _ => True) cJ7_fill_d0a16 RJ7 5 rmJ7_fill_d0a16 "fill" eU
set_option maxHeartbeats 4000000 in
set_option maxRecDepth 100000 in
theorem mJ7_fill_d0a16 (w : dnWd) (x : dnX) (b : Nat) (r0 : Option Nat) (p1 : Int64) : dnMt w x b yJ7_fill_d0a16 cJ7_fill_d0a16 5 none rmJ7_fill_d0a16 eU [dnV b r0, .long p1] (fJ7_fill_d0a16 r0 p1) := by
  have hlv : lv_args 0 [dnV b r0, .long p1] = [(0, dnV b r0), (1, .long p1)] := by cases r0 <;> rfl
  refine dn_mt (by decide +kernel) roU (by cases r0 <;> exact (Nat.le_of_ble_eq_true rfl)) ?_
  rw [hlv]
  refine dn_top ?_
  show jJ7_fill_d0a16 w x b 0 0 0 _ [] (dnB _ dnP)
  unfold fJ7_fill_d0a16
  refine dn_iconst (pc := 0) (v := 0) dJ7_fill_d0a16_0 rfl ?_
  refine dn_istore_n (pc := 1) dJ7_fill_d0a16_1 (Nat.le_of_ble_eq_true rfl) (dnKp_of (lv2 := [(0, dnV b r0), (1, .long p1)]) [0, 1] rfl rfl) ?_
  refine dn_aload_n (pc := 2) r0 1 dJ7_fill_d0a16_2 rfl ?_
  refine dn_alen (pc := 3) 2 r0 (by decide) (fun _ => rfl) dJ7_fill_d0a16_3 (fun v1 => ?_)
  refine dn_istore (pc := 4) dJ7_fill_d0a16_4 (Nat.le_of_ble_eq_true rfl) (dnKp_nb 0 rfl rfl rfl (dnKp_of (lv2 := [(0, dnV b r0), (1, .long p1)]) [1, 2] rfl rfl)) ?_
  refine dn_assoc ?_
  refine dn_lv [2, 3, 1, 0] (lv2 := (fun s => [(0, dnV b r0), (1, .long p1), (3, .int s), (4, .int v1)]) 0) rfl ?_
  refine dn_loopE (pc := 6) (body := fJ7_fill_d0a16_b6 r0 p1 v1) 22 (fun s => [(0, dnV b r0), (1, .long p1), (3, .int s), (4, .int v1)]) (fun q => []) (fun s6 K6 E6 hK6 hE6 => ?_) (fun q6 => ?_) 1000 0
  · unfold fJ7_fill_d0a16_b6
    refine dn_iload_n (pc := 6) 2 dJ7_fill_d0a16_6 rfl ?_
    refine dn_iload (pc := 7) 3 dJ7_fill_d0a16_7 rfl ?_
    refine dn_icmp_ge (pc := 9) 22 dJ7_fill_d0a16_9 rfl (fun _ => ?_) (fun _ => ?_)
    · refine dn_leaf ?_
      exact dn_lv [] rfl (hE6 ())
    · refine dn_aload_n (pc := 12) r0 0 dJ7_fill_d0a16_12 rfl ?_
      refine dn_iload_n (pc := 13) 2 dJ7_fill_d0a16_13 rfl ?_
      refine dn_lload_n (pc := 14) 1 dJ7_fill_d0a16_14 rfl ?_
      refine dn_last (pc := 15) r0 dJ7_fill_d0a16_15 ?_
      refine dn_iinc (pc := 16) (s6 + 1) 2 dJ7_fill_d0a16_16 rfl rfl (Nat.le_of_ble_eq_true rfl) (dnKp_of (lv2 := [(0, dnV b r0), (1, .long p1), (4, .int v1)]) [0, 1, 3] rfl rfl) ?_
      refine dn_goto (pc := 19) 6 dJ7_fill_d0a16_19 rfl ?_
      refine dn_leaf ?_
      exact dn_lv [1, 2, 0, 3] rfl (hK6 (s6 + 1))
  · exact dn_ret (Nat.le_of_ble_eq_true rfl) (Nat.le_of_ble_eq_true rfl) rfl dJ7_fill_d0a16_22
abbrev rmJ9_floorMod_7cf53 : Room := { frames := 0, cells := 0, slots := 0, locals := 0 }
def fJ9_floorMod_7cf53 (p0 : Int32) (p1 : Int32) : dnM Int32 :=
  dnB (dnNz p1) fun _ =>
  if 0 ≤ (p0 ^^^ p1) then
  (dnP (p0 - p0 / p1 * p1))
  else
  (if (p0 - p0 / p1 * p1) = 0 then
  (dnP (p0 - p0 / p1 * p1))
  else
  (dnP ((p0 - p0 / p1 * p1) + p1)))
abbrev jJ9_floorMod_7cf53 (w : dnWd) (x : dnX) (b : Nat) := dnD w x b (fun _ => True) cJ9_floorMod_7cf53 RJ9 3 rmJ9_floorMod_7cf53 "floorMod" eI
set_option maxHeartbeats 4000000 in
set_option maxRecDepth 100000 in
theorem mJ9_floorMod_7cf53 (w : dnWd) (x : dnX) (b : Nat) (p0 : Int32) (p1 : Int32) : dnMt w x b yJ9_floorMod_7cf53 cJ9_floorMod_7cf53 3 (some .int) rmJ9_floorMod_7cf53 eI [.int p0, .int p1] (fJ9_floorMod_7cf53 p0 p1) := by
  have hlv : lv_args 0 [.int p0, .int p1] = [(0, .int p0), (1, .int p1)] := by rfl
  refine dn_mt (by decide +kernel) roI (by exact (Nat.le_of_ble_eq_true rfl)) ?_
  rw [hlv]
  refine dn_top ?_
  show jJ9_floorMod_7cf53 w x b 0 0 0 _ [] (dnB _ dnP)
  unfold fJ9_floorMod_7cf53
  refine dn_iload_n (pc := 0) 0 dJ9_floorMod_7cf53_0 rfl ?_
  refine dn_iload_n (pc := 1) 1 dJ9_floorMod_7cf53_1 rfl ?_
  refine dn_irem (pc := 2) dJ9_floorMod_7cf53_2 ?_
  refine dn_istore_n (pc := 3) dJ9_floorMod_7cf53_3 (Nat.le_of_ble_eq_true rfl) (dnKp_nb 1 rfl rfl rfl (dnKp_of (lv2 := [(0, .int p0)]) [0] rfl rfl)) ?_
  refine dn_iload_n (pc := 4) 2 dJ9_floorMod_7cf53_4 rfl ?_
  refine dn_iload_n (pc := 5) 1 dJ9_floorMod_7cf53_5 rfl ?_
  refine dn_ixor (pc := 6) dJ9_floorMod_7cf53_6 ?_
  refine dn_if_ge (pc := 7) 18 dJ9_floorMod_7cf53_7 rfl (fun _ => ?_) (fun _ => ?_)
  · refine dn_iload_n (pc := 18) 0 dJ9_floorMod_7cf53_18 rfl ?_
    exact dn_ret (Nat.le_of_ble_eq_true rfl) (Nat.le_of_ble_eq_true rfl) rfl dJ9_floorMod_7cf53_19
  · refine dn_iload_n (pc := 10) 0 dJ9_floorMod_7cf53_10 rfl ?_
    refine dn_if_eq (pc := 11) 18 dJ9_floorMod_7cf53_11 rfl (fun _ => ?_) (fun _ => ?_)
    · refine dn_iload_n (pc := 18) 0 dJ9_floorMod_7cf53_18 rfl ?_
      exact dn_ret (Nat.le_of_ble_eq_true rfl) (Nat.le_of_ble_eq_true rfl) rfl dJ9_floorMod_7cf53_19
    · refine dn_iload_n (pc := 14) 0 dJ9_floorMod_7cf53_14 rfl ?_
      refine dn_iload_n (pc := 15) 1 dJ9_floorMod_7cf53_15 rfl ?_
      refine dn_iadd (pc := 16) dJ9_floorMod_7cf53_16 ?_
      exact dn_ret (Nat.le_of_ble_eq_true rfl) (Nat.le_of_ble_eq_true rfl) rfl dJ9_floorMod_7cf53_17
abbrev rmJ9_max_7cf53 : Room := { frames := 0, cells := 0, slots := 0, locals := 0 }
def fJ9_max_7cf53 (p0 : Int32) (p1 : Int32) : dnM Int32 :=
  if p0 < p1 then
  (dnP p1)
  else
  (dnP p0)
abbrev jJ9_max_7cf53 (w : dnWd) (x : dnX) (b : Nat) := dnD w x b (fun _ => True) cJ9_max_7cf53 RJ9 2 rmJ9_max_7cf53 "max" eI
set_option maxHeartbeats 4000000 in
set_option maxRecDepth 100000 in
theorem mJ9_max_7cf53 (w : dnWd) (x : dnX) (b : Nat) (p0 : Int32) (p1 : Int32) : dnMt w x b yJ9_max_7cf53 cJ9_max_7cf53 2 (some .int) rmJ9_max_7cf53 eI [.int p0, .int p1] (fJ9_max_7cf53 p0 p1) := by
  have hlv : lv_args 0 [.int p0, .int p1] = [(0, .int p0), (1, .int p1)] := by rfl
  refine dn_mt (by decide +kernel) roI (by exact (Nat.le_of_ble_eq_true rfl)) ?_
  rw [hlv]
  refine dn_top ?_
  show jJ9_max_7cf53 w x b 0 0 0 _ [] (dnB _ dnP)
  unfold fJ9_max_7cf53
  refine dn_iload_n (pc := 0) 0 dJ9_max_7cf53_0 rfl ?_
  refine dn_iload_n (pc := 1) 1 dJ9_max_7cf53_1 rfl ?_
  refine dn_icmp_lt (pc := 2) 9 dJ9_max_7cf53_2 rfl (fun _ => ?_) (fun _ => ?_)
  · refine dn_iload_n (pc := 9) 1 dJ9_max_7cf53_9 rfl ?_
    exact dn_ret (Nat.le_of_ble_eq_true rfl) (Nat.le_of_ble_eq_true rfl) rfl dJ9_max_7cf53_10
  · refine dn_iload_n (pc := 5) 0 dJ9_max_7cf53_5 rfl ?_
    refine dn_goto (pc := 6) 10 dJ9_max_7cf53_6 rfl ?_
    exact dn_ret (Nat.le_of_ble_eq_true rfl) (Nat.le_of_ble_eq_true rfl) rfl dJ9_max_7cf53_10
abbrev rmJ9_max_f86c9 : Room := { frames := 0, cells := 0, slots := 0, locals := 0 }
def fJ9_max_f86c9 (p0 : Int64) (p2 : Int64) : dnM Int64 :=
  if (lg_cmp p0 p2) < 0 then
  (dnP p2)
  else
  (dnP p0)
abbrev jJ9_max_f86c9 (w : dnWd) (x : dnX) (b : Nat) := dnD w x b (fun _ => True) cJ9_max_f86c9 RJ9 4 rmJ9_max_f86c9 "max" eL
set_option maxHeartbeats 4000000 in
set_option maxRecDepth 100000 in
theorem mJ9_max_f86c9 (w : dnWd) (x : dnX) (b : Nat) (p0 : Int64) (p2 : Int64) : dnMt w x b yJ9_max_f86c9 cJ9_max_f86c9 4 (some .long) rmJ9_max_f86c9 eL [.long p0, .long p2] (fJ9_max_f86c9 p0 p2) := by
  have hlv : lv_args 0 [.long p0, .long p2] = [(0, .long p0), (2, .long p2)] := by rfl
  refine dn_mt (by decide +kernel) roL (by exact (Nat.le_of_ble_eq_true rfl)) ?_
  rw [hlv]
  refine dn_top ?_
  show jJ9_max_f86c9 w x b 0 0 0 _ [] (dnB _ dnP)
  unfold fJ9_max_f86c9
  refine dn_lload_n (pc := 0) 0 dJ9_max_f86c9_0 rfl ?_
  refine dn_lload_n (pc := 1) 1 dJ9_max_f86c9_1 rfl ?_
  refine dn_lcmp (pc := 2) dJ9_max_f86c9_2 ?_
  refine dn_if_lt (pc := 3) 10 dJ9_max_f86c9_3 rfl (fun _ => ?_) (fun _ => ?_)
  · refine dn_lload_n (pc := 10) 1 dJ9_max_f86c9_10 rfl ?_
    exact dn_ret (Nat.le_of_ble_eq_true rfl) (Nat.le_of_ble_eq_true rfl) rfl dJ9_max_f86c9_11
  · refine dn_lload_n (pc := 6) 0 dJ9_max_f86c9_6 rfl ?_
    refine dn_goto (pc := 7) 11 dJ9_max_f86c9_7 rfl ?_
    exact dn_ret (Nat.le_of_ble_eq_true rfl) (Nat.le_of_ble_eq_true rfl) rfl dJ9_max_f86c9_11
abbrev rmJ9_min_7cf53 : Room := { frames := 0, cells := 0, slots := 0, locals := 0 }
def fJ9_min_7cf53 (p0 : Int32) (p1 : Int32) : dnM Int32 :=
  if p1 < p0 then
  (dnP p1)
  else
  (dnP p0)
abbrev jJ9_min_7cf53 (w : dnWd) (x : dnX) (b : Nat) := dnD w x b (fun _ => True) cJ9_min_7cf53 RJ9 2 rmJ9_min_7cf53 "min" eI
set_option maxHeartbeats 4000000 in
set_option maxRecDepth 100000 in
theorem mJ9_min_7cf53 (w : dnWd) (x : dnX) (b : Nat) (p0 : Int32) (p1 : Int32) : dnMt w x b yJ9_min_7cf53 cJ9_min_7cf53 2 (some .int) rmJ9_min_7cf53 eI [.int p0, .int p1] (fJ9_min_7cf53 p0 p1) := by
  have hlv : lv_args 0 [.int p0, .int p1] = [(0, .int p0), (1, .int p1)] := by rfl
  refine dn_mt (by decide +kernel) roI (by exact (Nat.le_of_ble_eq_true rfl)) ?_
  rw [hlv]
  refine dn_top ?_
  show jJ9_min_7cf53 w x b 0 0 0 _ [] (dnB _ dnP)
  unfold fJ9_min_7cf53
  refine dn_iload_n (pc := 0) 0 dJ9_min_7cf53_0 rfl ?_
  refine dn_iload_n (pc := 1) 1 dJ9_min_7cf53_1 rfl ?_
  refine dn_icmp_gt (pc := 2) 9 dJ9_min_7cf53_2 rfl (fun _ => ?_) (fun _ => ?_)
  · refine dn_iload_n (pc := 9) 1 dJ9_min_7cf53_9 rfl ?_
    exact dn_ret (Nat.le_of_ble_eq_true rfl) (Nat.le_of_ble_eq_true rfl) rfl dJ9_min_7cf53_10
  · refine dn_iload_n (pc := 5) 0 dJ9_min_7cf53_5 rfl ?_
    refine dn_goto (pc := 6) 10 dJ9_min_7cf53_6 rfl ?_
    exact dn_ret (Nat.le_of_ble_eq_true rfl) (Nat.le_of_ble_eq_true rfl) rfl dJ9_min_7cf53_10
abbrev rmJ9_min_f86c9 : Room := { frames := 0, cells := 0, slots := 0, locals := 0 }
def fJ9_min_f86c9 (p0 : Int64) (p2 : Int64) : dnM Int64 :=
  if 0 < (lg_cmp p0 p2) then
  (dnP p2)
  else
  (dnP p0)
abbrev jJ9_min_f86c9 (w : dnWd) (x : dnX) (b : Nat) := dnD w x b (fun _ => True) cJ9_min_f86c9 RJ9 4 rmJ9_min_f86c9 "min" eL
set_option maxHeartbeats 4000000 in
set_option maxRecDepth 100000 in
theorem mJ9_min_f86c9 (w : dnWd) (x : dnX) (b : Nat) (p0 : Int64) (p2 : Int64) : dnMt w x b yJ9_min_f86c9 cJ9_min_f86c9 4 (some .long) rmJ9_min_f86c9 eL [.long p0, .long p2] (fJ9_min_f86c9 p0 p2) := by
  have hlv : lv_args 0 [.long p0, .long p2] = [(0, .long p0), (2, .long p2)] := by rfl
  refine dn_mt (by decide +kernel) roL (by exact (Nat.le_of_ble_eq_true rfl)) ?_
  rw [hlv]
  refine dn_top ?_
  show jJ9_min_f86c9 w x b 0 0 0 _ [] (dnB _ dnP)
  unfold fJ9_min_f86c9
  refine dn_lload_n (pc := 0) 0 dJ9_min_f86c9_0 rfl ?_
  refine dn_lload_n (pc := 1) 1 dJ9_min_f86c9_1 rfl ?_
  refine dn_lcmp (pc := 2) dJ9_min_f86c9_2 ?_
  refine dn_if_gt (pc := 3) 10 dJ9_min_f86c9_3 rfl (fun _ => ?_) (fun _ => ?_)
  · refine dn_lload_n (pc := 10) 1 dJ9_min_f86c9_10 rfl ?_
    exact dn_ret (Nat.le_of_ble_eq_true rfl) (Nat.le_of_ble_eq_true rfl) rfl dJ9_min_f86c9_11
  · refine dn_lload_n (pc := 6) 0 dJ9_min_f86c9_6 rfl ?_
    refine dn_goto (pc := 7) 11 dJ9_min_f86c9_7 rfl ?_
    exact dn_ret (Nat.le_of_ble_eq_true rfl) (Nat.le_of_ble_eq_true rfl) rfl dJ9_min_f86c9_11
abbrev rmX10_begin : Room := { frames := 0, cells := 0, slots := 0, locals := 0 }
def fX10_begin (r0 : Option Nat) : dnM Unit :=
  dnB (dnPL r0 8 2 0) fun _ =>
  dnB (dnPD r0 8 3 FP.dconst0) fun _ =>
  dnB (dnPI r0 8 4 0) fun _ =>
  dnB (dnPI r0 8 5 0) fun _ =>
  dnP ()
abbrev jX10_begin (w : dnWd) (x : dnX) (b : Nat) := dnD w x b (fun _ => True) cX10_begin RX10 1 rmX10_begin "begin" eU
set_option maxHeartbeats 4000000 in
set_option maxRecDepth 100000 in
theorem mX10_begin (w : dnWd) (x : dnX) (b : Nat) (r0 : Option Nat) : dnMt w x b yX10_begin cX10_begin 1 none rmX10_begin eU [dnV b r0] (fX10_begin r0) := by
  have hlv : lv_args 0 [dnV b r0] = [(0, dnV b r0)] := by cases r0 <;> rfl
  refine dn_mt (by decide +kernel) roU (by cases r0 <;> exact (Nat.le_of_ble_eq_true rfl)) ?_
  rw [hlv]
  refine dn_top ?_
  show jX10_begin w x b 0 0 0 _ [] (dnB _ dnP)
  unfold fX10_begin
  refine dn_aload_n (pc := 0) r0 0 dX10_begin_0 rfl ?_
  refine dn_lconst (pc := 1) (v := 0) dX10_begin_1 rfl ?_
  refine dn_putL (pc := 2) r0 lRX10_23 dX10_begin_2 ?_
  refine dn_aload_n (pc := 5) r0 0 dX10_begin_5 rfl ?_
  refine dn_dconst0 (pc := 6) dX10_begin_6 ?_
  refine dn_putD (pc := 7) r0 lRX10_27 dX10_begin_7 ?_
  refine dn_aload_n (pc := 10) r0 0 dX10_begin_10 rfl ?_
  refine dn_iconst (pc := 11) (v := 0) dX10_begin_11 rfl ?_
  refine dn_putI (pc := 12) r0 lRX10_31 dX10_begin_12 ?_
  refine dn_aload_n (pc := 15) r0 0 dX10_begin_15 rfl ?_
  refine dn_iconst (pc := 16) (v := 0) dX10_begin_16 rfl ?_
  refine dn_putI (pc := 17) r0 lRX10_35 dX10_begin_17 ?_
  exact dn_ret (Nat.le_of_ble_eq_true rfl) (Nat.le_of_ble_eq_true rfl) rfl dX10_begin_20
abbrev rmX10_combineReals : Room := { frames := 0, cells := 0, slots := 0, locals := 0 }
def fX10_combineReals (p0 : Int32) (p1 : UInt64) (p3 : UInt64) : dnM UInt64 :=
  if p0 = 1 then
  (if 0 ≤ (Op.cmpValue (FP.dcmp p3 p1) .g) then
  (dnP p1)
  else
  (dnP p3))
  else
  (if p0 = 2 then
  (if (Op.cmpValue (FP.dcmp p3 p1) .l) ≤ 0 then
  (dnP p1)
  else
  (dnP p3))
  else
  (dnB (dnN64 (FP.dadd p1 p3)) fun v1 =>
  dnP v1))
abbrev jX10_combineReals (w : dnWd) (x : dnX) (b : Nat) := dnD w x b (fun _ => True) cX10_combineReals RX10 5 rmX10_combineReals "combineReals" eD
set_option maxHeartbeats 4000000 in
set_option maxRecDepth 100000 in
theorem mX10_combineReals (w : dnWd) (x : dnX) (b : Nat) (p0 : Int32) (p1 : UInt64) (p3 : UInt64) : dnMt w x b yX10_combineReals cX10_combineReals 5 (some .double) rmX10_combineReals eD [.int p0, .double p1, .double p3] (fX10_combineReals p0 p1 p3) := by
  have hlv : lv_args 0 [.int p0, .double p1, .double p3] = [(0, .int p0), (1, .double p1), (3, .double p3)] := by rfl
  refine dn_mt (by decide +kernel) roD (by exact (Nat.le_of_ble_eq_true rfl)) ?_
  rw [hlv]
  refine dn_top ?_
  show jX10_combineReals w x b 0 0 0 _ [] (dnB _ dnP)
  unfold fX10_combineReals
  refine dn_iload_n (pc := 0) 0 dX10_combineReals_0 rfl ?_
  refine dn_lcase (pc := 1) 1 28 dX10_combineReals_1 (by decide) rfl rfl (fun _ => ?_) (fun n1_1 => ?_)
  · refine dn_dload_n (pc := 28) 2 dX10_combineReals_28 rfl ?_
    refine dn_dload_n (pc := 29) 1 dX10_combineReals_29 rfl ?_
    refine dn_dcmp (pc := 30) dX10_combineReals_30 ?_
    refine dn_if_ge (pc := 31) 38 dX10_combineReals_31 rfl (fun _ => ?_) (fun _ => ?_)
    · refine dn_dload_n (pc := 38) 1 dX10_combineReals_38 rfl ?_
      exact dn_ret (Nat.le_of_ble_eq_true rfl) (Nat.le_of_ble_eq_true rfl) rfl dX10_combineReals_39
    · refine dn_dload_n (pc := 34) 2 dX10_combineReals_34 rfl ?_
      refine dn_goto (pc := 35) 39 dX10_combineReals_35 rfl ?_
      exact dn_ret (Nat.le_of_ble_eq_true rfl) (Nat.le_of_ble_eq_true rfl) rfl dX10_combineReals_39
  · refine dn_lcase (pc := 1) 2 40 dX10_combineReals_1 (by decide) rfl rfl (fun _ => ?_) (fun n1_2 => ?_)
    · refine dn_dload_n (pc := 40) 2 dX10_combineReals_40 rfl ?_
      refine dn_dload_n (pc := 41) 1 dX10_combineReals_41 rfl ?_
      refine dn_dcmp (pc := 42) dX10_combineReals_42 ?_
      refine dn_if_le (pc := 43) 50 dX10_combineReals_43 rfl (fun _ => ?_) (fun _ => ?_)
      · refine dn_dload_n (pc := 50) 1 dX10_combineReals_50 rfl ?_
        exact dn_ret (Nat.le_of_ble_eq_true rfl) (Nat.le_of_ble_eq_true rfl) rfl dX10_combineReals_51
      · refine dn_dload_n (pc := 46) 2 dX10_combineReals_46 rfl ?_
        refine dn_goto (pc := 47) 51 dX10_combineReals_47 rfl ?_
        exact dn_ret (Nat.le_of_ble_eq_true rfl) (Nat.le_of_ble_eq_true rfl) rfl dX10_combineReals_51
    · refine dn_lout (pc := 1) 52 dX10_combineReals_1 (by decide) (by simp [Op.lookupswitch.offset, dn_ne32 n1_1 (k := 1) rfl, dn_ne32 n1_2 (k := 2) rfl]) rfl ?_
      refine dn_dload_n (pc := 52) 1 dX10_combineReals_52 rfl ?_
      refine dn_dload_n (pc := 53) 2 dX10_combineReals_53 rfl ?_
      refine dn_dadd (pc := 54) dX10_combineReals_54 (fun v1 => ?_)
      exact dn_ret (Nat.le_of_ble_eq_true rfl) (Nat.le_of_ble_eq_true rfl) rfl dX10_combineReals_55
abbrev rmX10_combineWholes : Room := { frames := 1, cells := 0, slots := 0, locals := 23 }
def fX10_combineWholes (p0 : Int32) (p1 : Int64) (p3 : Int64) : dnM Int64 :=
  if p0 = 1 then
  (dnB (fJ9_min_f86c9 p1 p3) fun v2 =>
  dnP v2)
  else
  (if p0 = 2 then
  (dnB (fJ9_max_f86c9 p1 p3) fun v1 =>
  dnP v1)
  else
  (if p0 = 3 then
  (dnP (p1 ^^^ p3))
  else
  (dnP (p1 + p3))))
abbrev jX10_combineWholes (w : dnWd) (x : dnX) (b : Nat) := dnD w x b (fun _ => True) cX10_combineWholes RX10 5 rmX10_combineWholes "combineWholes" eL
set_option maxHeartbeats 4000000 in
set_option maxRecDepth 100000 in
theorem mX10_combineWholes (w : dnWd) (x : dnX) (b : Nat) (p0 : Int32) (p1 : Int64) (p3 : Int64) : dnMt w x b yX10_combineWholes cX10_combineWholes 5 (some .long) rmX10_combineWholes eL [.int p0, .long p1, .long p3] (fX10_combineWholes p0 p1 p3) := by
  have hlv : lv_args 0 [.int p0, .long p1, .long p3] = [(0, .int p0), (1, .long p1), (3, .long p3)] := by rfl
  refine dn_mt (by decide +kernel) roL (by exact (Nat.le_of_ble_eq_true rfl)) ?_
  rw [hlv]
  refine dn_top ?_
  show jX10_combineWholes w x b 0 0 0 _ [] (dnB _ dnP)
  unfold fX10_combineWholes
  refine dn_iload_n (pc := 0) 0 dX10_combineWholes_0 rfl ?_
  refine dn_tcase (pc := 1) 1 28 dX10_combineWholes_1 (by decide) (by decide) rfl rfl (fun _ => ?_) (fun n1_1 => ?_)
  · refine dn_lload_n (pc := 28) 1 dX10_combineWholes_28 rfl ?_
    refine dn_lload_n (pc := 29) 2 dX10_combineWholes_29 rfl ?_
    refine dn_callS0L (pc := 30) [.long p1, .long p3]  kRX10_116 (mJ9_min_f86c9 w x b p1 p3) rfl rfl (Nat.le_of_ble_eq_true rfl) ⟨(Nat.le_of_ble_eq_true rfl), (Nat.le_of_ble_eq_true rfl)⟩ ⟨rfl, rfl, (Nat.le_of_ble_eq_true rfl), (Nat.le_of_ble_eq_true rfl)⟩ dX10_combineWholes_30 (fun v2 => ?_)
    exact dn_ret (Nat.le_of_ble_eq_true rfl) (Nat.le_of_ble_eq_true rfl) rfl dX10_combineWholes_33
  · refine dn_tcase (pc := 1) 2 34 dX10_combineWholes_1 (by decide) (by decide) rfl rfl (fun _ => ?_) (fun n1_2 => ?_)
    · refine dn_lload_n (pc := 34) 1 dX10_combineWholes_34 rfl ?_
      refine dn_lload_n (pc := 35) 2 dX10_combineWholes_35 rfl ?_
      refine dn_callS0L (pc := 36) [.long p1, .long p3]  kRX10_122 (mJ9_max_f86c9 w x b p1 p3) rfl rfl (Nat.le_of_ble_eq_true rfl) ⟨(Nat.le_of_ble_eq_true rfl), (Nat.le_of_ble_eq_true rfl)⟩ ⟨rfl, rfl, (Nat.le_of_ble_eq_true rfl), (Nat.le_of_ble_eq_true rfl)⟩ dX10_combineWholes_36 (fun v1 => ?_)
      exact dn_ret (Nat.le_of_ble_eq_true rfl) (Nat.le_of_ble_eq_true rfl) rfl dX10_combineWholes_39
    · refine dn_tcase (pc := 1) 3 40 dX10_combineWholes_1 (by decide) (by decide) rfl rfl (fun _ => ?_) (fun n1_3 => ?_)
      · refine dn_lload_n (pc := 40) 1 dX10_combineWholes_40 rfl ?_
        refine dn_lload_n (pc := 41) 2 dX10_combineWholes_41 rfl ?_
        refine dn_lxor (pc := 42) dX10_combineWholes_42 ?_
        exact dn_ret (Nat.le_of_ble_eq_true rfl) (Nat.le_of_ble_eq_true rfl) rfl dX10_combineWholes_43
      · refine dn_tout (pc := 1) [1, 2, 3] 44 dX10_combineWholes_1 (List.forall_mem_cons.mpr ⟨n1_1, (List.forall_mem_cons.mpr ⟨n1_2, (List.forall_mem_cons.mpr ⟨n1_3, (fun _ h => absurd h List.not_mem_nil)⟩)⟩)⟩) (by decide) rfl ?_
        refine dn_lload_n (pc := 44) 1 dX10_combineWholes_44 rfl ?_
        refine dn_lload_n (pc := 45) 2 dX10_combineWholes_45 rfl ?_
        refine dn_ladd (pc := 46) dX10_combineWholes_46 ?_
        exact dn_ret (Nat.le_of_ble_eq_true rfl) (Nat.le_of_ble_eq_true rfl) rfl dX10_combineWholes_47
abbrev rmX10_isChosen : Room := { frames := 0, cells := 0, slots := 0, locals := 0 }
def fX10_isChosen (p0 : Int32) (p1 : Int32) (p2 : Int32) (p3 : Int32) : dnM Bool :=
  if p0 = 0 then
  (if ¬ p2 = p1 then
  (dnP false)
  else
  (dnP true))
  else
  (if p0 = 1 then
  (if ¬ p3 = p1 then
  (dnP false)
  else
  (dnP true))
  else
  (if p0 = 2 then
  (if ¬ (p2 + p3) = p1 then
  (dnP false)
  else
  (dnP true))
  else
  (dnP true)))
abbrev jX10_isChosen (w : dnWd) (x : dnX) (b : Nat) := dnD w x b (fun _ => True) cX10_isChosen RX10 4 rmX10_isChosen "isChosen" eZ
set_option maxHeartbeats 4000000 in
set_option maxRecDepth 100000 in
theorem mX10_isChosen (w : dnWd) (x : dnX) (b : Nat) (p0 : Int32) (p1 : Int32) (p2 : Int32) (p3 : Int32) : dnMt w x b yX10_isChosen cX10_isChosen 4 (some .boolean) rmX10_isChosen eZ [.int p0, .int p1, .int p2, .int p3] (fX10_isChosen p0 p1 p2 p3) := by
  have hlv : lv_args 0 [.int p0, .int p1, .int p2, .int p3] = [(0, .int p0), (1, .int p1), (2, .int p2), (3, .int p3)] := by rfl
  refine dn_mt (by decide +kernel) roZ (by exact (Nat.le_of_ble_eq_true rfl)) ?_
  rw [hlv]
  refine dn_top ?_
  show jX10_isChosen w x b 0 0 0 _ [] (dnB _ dnP)
  unfold fX10_isChosen
  refine dn_iload_n (pc := 0) 0 dX10_isChosen_0 rfl ?_
  refine dn_tcase (pc := 1) 0 28 dX10_isChosen_1 (by decide) (by decide) rfl rfl (fun _ => ?_) (fun n1_0 => ?_)
  · refine dn_iload_n (pc := 28) 2 dX10_isChosen_28 rfl ?_
    refine dn_iload_n (pc := 29) 1 dX10_isChosen_29 rfl ?_
    refine dn_icmp_ne (pc := 30) 37 dX10_isChosen_30 rfl (fun _ => ?_) (fun _ => ?_)
    · refine dn_iconst (pc := 37) (v := 0) dX10_isChosen_37 rfl ?_
      exact dn_ret (Nat.le_of_ble_eq_true rfl) (Nat.le_of_ble_eq_true rfl) rfl dX10_isChosen_38
    · refine dn_iconst (pc := 33) (v := 1) dX10_isChosen_33 rfl ?_
      refine dn_goto (pc := 34) 38 dX10_isChosen_34 rfl ?_
      exact dn_ret (Nat.le_of_ble_eq_true rfl) (Nat.le_of_ble_eq_true rfl) rfl dX10_isChosen_38
  · refine dn_tcase (pc := 1) 1 39 dX10_isChosen_1 (by decide) (by decide) rfl rfl (fun _ => ?_) (fun n1_1 => ?_)
    · refine dn_iload_n (pc := 39) 3 dX10_isChosen_39 rfl ?_
      refine dn_iload_n (pc := 40) 1 dX10_isChosen_40 rfl ?_
      refine dn_icmp_ne (pc := 41) 48 dX10_isChosen_41 rfl (fun _ => ?_) (fun _ => ?_)
      · refine dn_iconst (pc := 48) (v := 0) dX10_isChosen_48 rfl ?_
        exact dn_ret (Nat.le_of_ble_eq_true rfl) (Nat.le_of_ble_eq_true rfl) rfl dX10_isChosen_49
      · refine dn_iconst (pc := 44) (v := 1) dX10_isChosen_44 rfl ?_
        refine dn_goto (pc := 45) 49 dX10_isChosen_45 rfl ?_
        exact dn_ret (Nat.le_of_ble_eq_true rfl) (Nat.le_of_ble_eq_true rfl) rfl dX10_isChosen_49
    · refine dn_tcase (pc := 1) 2 50 dX10_isChosen_1 (by decide) (by decide) rfl rfl (fun _ => ?_) (fun n1_2 => ?_)
      · refine dn_iload_n (pc := 50) 2 dX10_isChosen_50 rfl ?_
        refine dn_iload_n (pc := 51) 3 dX10_isChosen_51 rfl ?_
        refine dn_iadd (pc := 52) dX10_isChosen_52 ?_
        refine dn_iload_n (pc := 53) 1 dX10_isChosen_53 rfl ?_
        refine dn_icmp_ne (pc := 54) 61 dX10_isChosen_54 rfl (fun _ => ?_) (fun _ => ?_)
        · refine dn_iconst (pc := 61) (v := 0) dX10_isChosen_61 rfl ?_
          exact dn_ret (Nat.le_of_ble_eq_true rfl) (Nat.le_of_ble_eq_true rfl) rfl dX10_isChosen_62
        · refine dn_iconst (pc := 57) (v := 1) dX10_isChosen_57 rfl ?_
          refine dn_goto (pc := 58) 62 dX10_isChosen_58 rfl ?_
          exact dn_ret (Nat.le_of_ble_eq_true rfl) (Nat.le_of_ble_eq_true rfl) rfl dX10_isChosen_62
      · refine dn_tout (pc := 1) [0, 1, 2] 63 dX10_isChosen_1 (List.forall_mem_cons.mpr ⟨n1_0, (List.forall_mem_cons.mpr ⟨n1_1, (List.forall_mem_cons.mpr ⟨n1_2, (fun _ h => absurd h List.not_mem_nil)⟩)⟩)⟩) (by decide) rfl ?_
        refine dn_iconst (pc := 63) (v := 1) dX10_isChosen_63 rfl ?_
        exact dn_ret (Nat.le_of_ble_eq_true rfl) (Nat.le_of_ble_eq_true rfl) rfl dX10_isChosen_64
abbrev rmX10_isSummed : Room := { frames := 0, cells := 0, slots := 0, locals := 0 }
def fX10_isSummed_j16 : dnM Bool :=
  dnP true
def fX10_isSummed (p0 : Int32) : dnM Bool :=
  if p0 = 4 then
  (fX10_isSummed_j16)
  else
  (if p0 = 5 then
  (fX10_isSummed_j16)
  else
  (if ¬ p0 = 7 then
  (dnP false)
  else
  (fX10_isSummed_j16)))
abbrev jX10_isSummed (w : dnWd) (x : dnX) (b : Nat) := dnD w x b (fun _ => True) cX10_isSummed RX10 1 rmX10_isSummed "isSummed" eZ
set_option maxHeartbeats 4000000 in
set_option maxRecDepth 100000 in
theorem mX10_isSummed (w : dnWd) (x : dnX) (b : Nat) (p0 : Int32) : dnMt w x b yX10_isSummed cX10_isSummed 1 (some .boolean) rmX10_isSummed eZ [.int p0] (fX10_isSummed p0) := by
  have hlv : lv_args 0 [.int p0] = [(0, .int p0)] := by rfl
  refine dn_mt (by decide +kernel) roZ (by exact (Nat.le_of_ble_eq_true rfl)) ?_
  rw [hlv]
  refine dn_top ?_
  show jX10_isSummed w x b 0 0 0 _ [] (dnB _ dnP)
  unfold fX10_isSummed
  have hj16 : jX10_isSummed w x b 16 0 0 [] [] (dnB (fX10_isSummed_j16) dnP) := by
    unfold fX10_isSummed_j16
    refine dn_iconst (pc := 16) (v := 1) dX10_isSummed_16 rfl ?_
    refine dn_goto (pc := 17) 21 dX10_isSummed_17 rfl ?_
    exact dn_ret (Nat.le_of_ble_eq_true rfl) (Nat.le_of_ble_eq_true rfl) rfl dX10_isSummed_21
  refine dn_iload_n (pc := 0) 0 dX10_isSummed_0 rfl ?_
  refine dn_iconst (pc := 1) (v := 4) dX10_isSummed_1 rfl ?_
  refine dn_icmp_eq (pc := 2) 16 dX10_isSummed_2 rfl (fun _ => ?_) (fun _ => ?_)
  · exact dn_lv [] rfl (hj16)
  · refine dn_iload_n (pc := 5) 0 dX10_isSummed_5 rfl ?_
    refine dn_iconst (pc := 6) (v := 5) dX10_isSummed_6 rfl ?_
    refine dn_icmp_eq (pc := 7) 16 dX10_isSummed_7 rfl (fun _ => ?_) (fun _ => ?_)
    · exact dn_lv [] rfl (hj16)
    · refine dn_iload_n (pc := 10) 0 dX10_isSummed_10 rfl ?_
      refine dn_bipush (pc := 11) (v := 7) dX10_isSummed_11 rfl ?_
      refine dn_icmp_ne (pc := 13) 20 dX10_isSummed_13 rfl (fun _ => ?_) (fun _ => ?_)
      · refine dn_iconst (pc := 20) (v := 0) dX10_isSummed_20 rfl ?_
        exact dn_ret (Nat.le_of_ble_eq_true rfl) (Nat.le_of_ble_eq_true rfl) rfl dX10_isSummed_21
      · exact dn_lv [] rfl (hj16)
abbrev rmX10_isFoldable : Room := { frames := 1, cells := 0, slots := 0, locals := 20 }
def fX10_isFoldable_j61 : dnM Bool :=
  dnP true
def fX10_isFoldable_j50 (l2 : Int32) (l3 : Int32) : dnM Bool :=
  if ¬ l2 = 3 then
  (fX10_isFoldable_j61)
  else
  (if l3 = 7 then
  (dnP false)
  else
  (fX10_isFoldable_j61))
def fX10_isFoldable_j34 (l0 : Int32) (l1 : Int32) (l2 : Int32) (l3 : Int32) (s0 : Bool) : dnM Bool :=
  if s0 = true then
  (if ¬ l0 = 3 then
  (fX10_isFoldable_j50 l2 l3)
  else
  (if ¬ l1 = 0 then
  (dnP false)
  else
  (fX10_isFoldable_j50 l2 l3)))
  else
  (dnP false)
def fX10_isFoldable_j33 (l0 : Int32) (l1 : Int32) (l2 : Int32) (l3 : Int32) : dnM Bool :=
  fX10_isFoldable_j34 l0 l1 l2 l3 false
def fX10_isFoldable (p0 : Int32) (p1 : Int32) (p2 : Int32) (p3 : Int32) : dnM Bool :=
  if p0 < 0 then
  (fX10_isFoldable_j33 p0 p1 p2 p3)
  else
  (if 3 < p0 then
  (fX10_isFoldable_j33 p0 p1 p2 p3)
  else
  (if p1 < 0 then
  (fX10_isFoldable_j33 p0 p1 p2 p3)
  else
  (if p2 < 0 then
  (fX10_isFoldable_j33 p0 p1 p2 p3)
  else
  (if 4 < p2 then
  (fX10_isFoldable_j33 p0 p1 p2 p3)
  else
  (dnB (fX10_isSummed p3) fun v1 =>
  if v1 = true then
  (fX10_isFoldable_j34 p0 p1 p2 p3 true)
  else
  (fX10_isFoldable_j33 p0 p1 p2 p3))))))
abbrev jX10_isFoldable (w : dnWd) (x : dnX) (b : Nat) := dnD w x b (fun _ => True) cX10_isFoldable RX10 5 rmX10_isFoldable "isFoldable" eZ
set_option maxHeartbeats 4000000 in
set_option maxRecDepth 100000 in
theorem mX10_isFoldable (w : dnWd) (x : dnX) (b : Nat) (p0 : Int32) (p1 : Int32) (p2 : Int32) (p3 : Int32) : dnMt w x b yX10_isFoldable cX10_isFoldable 5 (some .boolean) rmX10_isFoldable eZ [.int p0, .int p1, .int p2, .int p3] (fX10_isFoldable p0 p1 p2 p3) := by
  have hlv : lv_args 0 [.int p0, .int p1, .int p2, .int p3] = [(0, .int p0), (1, .int p1), (2, .int p2), (3, .int p3)] := by rfl
  refine dn_mt (by decide +kernel) roZ (by exact (Nat.le_of_ble_eq_true rfl)) ?_
  rw [hlv]
  refine dn_top ?_
  show jX10_isFoldable w x b 0 0 0 _ [] (dnB _ dnP)
  unfold fX10_isFoldable
  have hj61 : jX10_isFoldable w x b 61 0 0 [] [] (dnB (fX10_isFoldable_j61) dnP) := by
    unfold fX10_isFoldable_j61
    refine dn_iconst (pc := 61) (v := 1) dX10_isFoldable_61 rfl ?_
    refine dn_goto (pc := 62) 66 dX10_isFoldable_62 rfl ?_
    exact dn_ret (Nat.le_of_ble_eq_true rfl) (Nat.le_of_ble_eq_true rfl) rfl dX10_isFoldable_66
  have hj50 : ∀ (l2 : Int32) (l3 : Int32), jX10_isFoldable w x b 50 0 0 [(2, .int l2), (3, .int l3)] [] (dnB (fX10_isFoldable_j50 l2 l3) dnP) := by
    intro l2 l3
    unfold fX10_isFoldable_j50
    refine dn_iload_n (pc := 50) 0 dX10_isFoldable_50 rfl ?_
    refine dn_iconst (pc := 51) (v := 3) dX10_isFoldable_51 rfl ?_
    refine dn_icmp_ne (pc := 52) 61 dX10_isFoldable_52 rfl (fun _ => ?_) (fun _ => ?_)
    · exact dn_lv [] rfl (hj61)
    · refine dn_iload_n (pc := 55) 1 dX10_isFoldable_55 rfl ?_
      refine dn_bipush (pc := 56) (v := 7) dX10_isFoldable_56 rfl ?_
      refine dn_icmp_eq (pc := 58) 65 dX10_isFoldable_58 rfl (fun _ => ?_) (fun _ => ?_)
      · refine dn_iconst (pc := 65) (v := 0) dX10_isFoldable_65 rfl ?_
        exact dn_ret (Nat.le_of_ble_eq_true rfl) (Nat.le_of_ble_eq_true rfl) rfl dX10_isFoldable_66
      · exact dn_lv [] rfl (hj61)
  have hj34 : ∀ (l0 : Int32) (l1 : Int32) (l2 : Int32) (l3 : Int32) (s0 : Bool), jX10_isFoldable w x b 34 0 0 [(0, .int l0), (1, .int l1), (2, .int l2), (3, .int l3)] [.int (dnZ s0)] (dnB (fX10_isFoldable_j34 l0 l1 l2 l3 s0) dnP) := by
    intro l0 l1 l2 l3 s0
    unfold fX10_isFoldable_j34
    refine dn_istore (pc := 34) dX10_isFoldable_34 (Nat.le_of_ble_eq_true rfl) (dnKp_nb 3 rfl rfl rfl (dnKp_of (lv2 := [(0, .int l0), (1, .int l1), (2, .int l2)]) [0, 1, 2] rfl rfl)) ?_
    refine dn_iload (pc := 36) 0 dX10_isFoldable_36 rfl ?_
    refine dn_ifz_eq (pc := 38) 65 dX10_isFoldable_38 rfl (fun _ => ?_) (fun _ => ?_)
    · refine dn_iload_n (pc := 41) 2 dX10_isFoldable_41 rfl ?_
      refine dn_iconst (pc := 42) (v := 3) dX10_isFoldable_42 rfl ?_
      refine dn_icmp_ne (pc := 43) 50 dX10_isFoldable_43 rfl (fun _ => ?_) (fun _ => ?_)
      · exact dn_lv [4, 1] rfl (hj50 l2 l3)
      · refine dn_iload_n (pc := 46) 3 dX10_isFoldable_46 rfl ?_
        refine dn_if_ne (pc := 47) 65 dX10_isFoldable_47 rfl (fun _ => ?_) (fun _ => ?_)
        · refine dn_iconst (pc := 65) (v := 0) dX10_isFoldable_65 rfl ?_
          exact dn_ret (Nat.le_of_ble_eq_true rfl) (Nat.le_of_ble_eq_true rfl) rfl dX10_isFoldable_66
        · exact dn_lv [4, 1] rfl (hj50 l2 l3)
    · refine dn_iconst (pc := 65) (v := 0) dX10_isFoldable_65 rfl ?_
      exact dn_ret (Nat.le_of_ble_eq_true rfl) (Nat.le_of_ble_eq_true rfl) rfl dX10_isFoldable_66
  have hj33 : ∀ (l0 : Int32) (l1 : Int32) (l2 : Int32) (l3 : Int32), jX10_isFoldable w x b 33 0 0 [(0, .int l0), (1, .int l1), (2, .int l2), (3, .int l3)] [] (dnB (fX10_isFoldable_j33 l0 l1 l2 l3) dnP) := by
    intro l0 l1 l2 l3
    unfold fX10_isFoldable_j33
    refine dn_iconst (pc := 33) (v := 0) dX10_isFoldable_33 rfl ?_
    exact dn_lv [0, 1, 2, 3] rfl (hj34 l0 l1 l2 l3 false)
  refine dn_iload_n (pc := 0) 0 dX10_isFoldable_0 rfl ?_
  refine dn_if_lt (pc := 1) 33 dX10_isFoldable_1 rfl (fun _ => ?_) (fun _ => ?_)
  · exact dn_lv [0, 1, 2, 3] rfl (hj33 p0 p1 p2 p3)
  · refine dn_iload_n (pc := 4) 0 dX10_isFoldable_4 rfl ?_
    refine dn_iconst (pc := 5) (v := 3) dX10_isFoldable_5 rfl ?_
    refine dn_icmp_gt (pc := 6) 33 dX10_isFoldable_6 rfl (fun _ => ?_) (fun _ => ?_)
    · exact dn_lv [0, 1, 2, 3] rfl (hj33 p0 p1 p2 p3)
    · refine dn_iload_n (pc := 9) 1 dX10_isFoldable_9 rfl ?_
      refine dn_if_lt (pc := 10) 33 dX10_isFoldable_10 rfl (fun _ => ?_) (fun _ => ?_)
      · exact dn_lv [0, 1, 2, 3] rfl (hj33 p0 p1 p2 p3)
      · refine dn_iload_n (pc := 13) 2 dX10_isFoldable_13 rfl ?_
        refine dn_if_lt (pc := 14) 33 dX10_isFoldable_14 rfl (fun _ => ?_) (fun _ => ?_)
        · exact dn_lv [0, 1, 2, 3] rfl (hj33 p0 p1 p2 p3)
        · refine dn_iload_n (pc := 17) 2 dX10_isFoldable_17 rfl ?_
          refine dn_iconst (pc := 18) (v := 4) dX10_isFoldable_18 rfl ?_
          refine dn_icmp_gt (pc := 19) 33 dX10_isFoldable_19 rfl (fun _ => ?_) (fun _ => ?_)
          · exact dn_lv [0, 1, 2, 3] rfl (hj33 p0 p1 p2 p3)
          · refine dn_iload_n (pc := 22) 3 dX10_isFoldable_22 rfl ?_
            refine dn_callS0Z (pc := 23) [.int p3]  kRX10_19 (mX10_isSummed w x b p3) rfl rfl (Nat.le_of_ble_eq_true rfl) ⟨(Nat.le_of_ble_eq_true rfl), (Nat.le_of_ble_eq_true rfl)⟩ ⟨rfl, rfl, (Nat.le_of_ble_eq_true rfl), (Nat.le_of_ble_eq_true rfl)⟩ dX10_isFoldable_23 (fun v1 => ?_)
            refine dn_ifz_eq (pc := 26) 33 dX10_isFoldable_26 rfl (fun _ => ?_) (fun _ => ?_)
            · refine dn_iconst (pc := 29) (v := 1) dX10_isFoldable_29 rfl ?_
              refine dn_goto (pc := 30) 34 dX10_isFoldable_30 rfl ?_
              exact dn_lv [0, 1, 2, 3] rfl (hj34 p0 p1 p2 p3 true)
            · exact dn_lv [0, 1, 2, 3] rfl (hj33 p0 p1 p2 p3)
abbrev rmX12_narrowed : Room := { frames := 0, cells := 0, slots := 0, locals := 0 }
def fX12_narrowed (p0 : Int32) (p1 : Int64) : dnM Int64 :=
  if p0 = 0 then
  (dnP (p1 &&& 1))
  else
  (if p0 = 1 then
  (dnP ((((((p1 : Int64).toInt32) : Int32).toInt8.toInt32) : Int32).toInt64))
  else
  (if p0 = 2 then
  (dnP (((((((p1 : Int64).toInt32) : Int32).toUInt32 % 65536).toInt32) : Int32).toInt64))
  else
  (if p0 = 3 then
  (dnP ((((((p1 : Int64).toInt32) : Int32).toInt16.toInt32) : Int32).toInt64))
  else
  (if p0 = 4 then
  (dnP ((((p1 : Int64).toInt32) : Int32).toInt64))
  else
  (dnP p1)))))
abbrev jX12_narrowed (w : dnWd) (x : dnX) (b : Nat) := dnD w x b (fun _ => True) cX12_narrowed RX12 3 rmX12_narrowed "narrowed" eL
set_option maxHeartbeats 4000000 in
set_option maxRecDepth 100000 in
theorem mX12_narrowed (w : dnWd) (x : dnX) (b : Nat) (p0 : Int32) (p1 : Int64) : dnMt w x b yX12_narrowed cX12_narrowed 3 (some .long) rmX12_narrowed eL [.int p0, .long p1] (fX12_narrowed p0 p1) := by
  have hlv : lv_args 0 [.int p0, .long p1] = [(0, .int p0), (1, .long p1)] := by rfl
  refine dn_mt (by decide +kernel) roL (by exact (Nat.le_of_ble_eq_true rfl)) ?_
  rw [hlv]
  refine dn_top ?_
  show jX12_narrowed w x b 0 0 0 _ [] (dnB _ dnP)
  unfold fX12_narrowed
  refine dn_iload_n (pc := 0) 0 dX12_narrowed_0 rfl ?_
  refine dn_tcase (pc := 1) 0 36 dX12_narrowed_1 (by decide) (by decide) rfl rfl (fun _ => ?_) (fun n1_0 => ?_)
  · refine dn_lload_n (pc := 36) 1 dX12_narrowed_36 rfl ?_
    refine dn_lconst (pc := 37) (v := 1) dX12_narrowed_37 rfl ?_
    refine dn_land (pc := 38) dX12_narrowed_38 ?_
    exact dn_ret (Nat.le_of_ble_eq_true rfl) (Nat.le_of_ble_eq_true rfl) rfl dX12_narrowed_39
  · refine dn_tcase (pc := 1) 1 40 dX12_narrowed_1 (by decide) (by decide) rfl rfl (fun _ => ?_) (fun n1_1 => ?_)
    · refine dn_lload_n (pc := 40) 1 dX12_narrowed_40 rfl ?_
      refine dn_l2i (pc := 41) dX12_narrowed_41 ?_
      refine dn_i2b (pc := 42) dX12_narrowed_42 ?_
      refine dn_i2l (pc := 43) dX12_narrowed_43 ?_
      exact dn_ret (Nat.le_of_ble_eq_true rfl) (Nat.le_of_ble_eq_true rfl) rfl dX12_narrowed_44
    · refine dn_tcase (pc := 1) 2 45 dX12_narrowed_1 (by decide) (by decide) rfl rfl (fun _ => ?_) (fun n1_2 => ?_)
      · refine dn_lload_n (pc := 45) 1 dX12_narrowed_45 rfl ?_
        refine dn_l2i (pc := 46) dX12_narrowed_46 ?_
        refine dn_i2c (pc := 47) dX12_narrowed_47 ?_
        refine dn_i2l (pc := 48) dX12_narrowed_48 ?_
        exact dn_ret (Nat.le_of_ble_eq_true rfl) (Nat.le_of_ble_eq_true rfl) rfl dX12_narrowed_49
      · refine dn_tcase (pc := 1) 3 50 dX12_narrowed_1 (by decide) (by decide) rfl rfl (fun _ => ?_) (fun n1_3 => ?_)
        · refine dn_lload_n (pc := 50) 1 dX12_narrowed_50 rfl ?_
          refine dn_l2i (pc := 51) dX12_narrowed_51 ?_
          refine dn_i2s (pc := 52) dX12_narrowed_52 ?_
          refine dn_i2l (pc := 53) dX12_narrowed_53 ?_
          exact dn_ret (Nat.le_of_ble_eq_true rfl) (Nat.le_of_ble_eq_true rfl) rfl dX12_narrowed_54
        · refine dn_tcase (pc := 1) 4 55 dX12_narrowed_1 (by decide) (by decide) rfl rfl (fun _ => ?_) (fun n1_4 => ?_)
          · refine dn_lload_n (pc := 55) 1 dX12_narrowed_55 rfl ?_
            refine dn_l2i (pc := 56) dX12_narrowed_56 ?_
            refine dn_i2l (pc := 57) dX12_narrowed_57 ?_
            exact dn_ret (Nat.le_of_ble_eq_true rfl) (Nat.le_of_ble_eq_true rfl) rfl dX12_narrowed_58
          · refine dn_tout (pc := 1) [0, 1, 2, 3, 4] 59 dX12_narrowed_1 (List.forall_mem_cons.mpr ⟨n1_0, (List.forall_mem_cons.mpr ⟨n1_1, (List.forall_mem_cons.mpr ⟨n1_2, (List.forall_mem_cons.mpr ⟨n1_3, (List.forall_mem_cons.mpr ⟨n1_4, (fun _ h => absurd h List.not_mem_nil)⟩)⟩)⟩)⟩)⟩) (by decide) rfl ?_
            refine dn_lload_n (pc := 59) 1 dX12_narrowed_59 rfl ?_
            exact dn_ret (Nat.le_of_ble_eq_true rfl) (Nat.le_of_ble_eq_true rfl) rfl dX12_narrowed_60
abbrev rmX12_isPlain : Room := { frames := 0, cells := 0, slots := 0, locals := 0 }
def fX12_isPlain (p0 : Int32) : dnM Bool :=
  if p0 < 0 then
  (dnP false)
  else
  (if 8 ≤ p0 then
  (dnP false)
  else
  (dnP true))
abbrev jX12_isPlain (w : dnWd) (x : dnX) (b : Nat) := dnD w x b (fun _ => True) cX12_isPlain RX12 1 rmX12_isPlain "isPlain" eZ
set_option maxHeartbeats 4000000 in
set_option maxRecDepth 100000 in
theorem mX12_isPlain (w : dnWd) (x : dnX) (b : Nat) (p0 : Int32) : dnMt w x b yX12_isPlain cX12_isPlain 1 (some .boolean) rmX12_isPlain eZ [.int p0] (fX12_isPlain p0) := by
  have hlv : lv_args 0 [.int p0] = [(0, .int p0)] := by rfl
  refine dn_mt (by decide +kernel) roZ (by exact (Nat.le_of_ble_eq_true rfl)) ?_
  rw [hlv]
  refine dn_top ?_
  show jX12_isPlain w x b 0 0 0 _ [] (dnB _ dnP)
  unfold fX12_isPlain
  refine dn_iload_n (pc := 0) 0 dX12_isPlain_0 rfl ?_
  refine dn_if_lt (pc := 1) 14 dX12_isPlain_1 rfl (fun _ => ?_) (fun _ => ?_)
  · refine dn_iconst (pc := 14) (v := 0) dX12_isPlain_14 rfl ?_
    exact dn_ret (Nat.le_of_ble_eq_true rfl) (Nat.le_of_ble_eq_true rfl) rfl dX12_isPlain_15
  · refine dn_iload_n (pc := 4) 0 dX12_isPlain_4 rfl ?_
    refine dn_bipush (pc := 5) (v := 8) dX12_isPlain_5 rfl ?_
    refine dn_icmp_ge (pc := 7) 14 dX12_isPlain_7 rfl (fun _ => ?_) (fun _ => ?_)
    · refine dn_iconst (pc := 14) (v := 0) dX12_isPlain_14 rfl ?_
      exact dn_ret (Nat.le_of_ble_eq_true rfl) (Nat.le_of_ble_eq_true rfl) rfl dX12_isPlain_15
    · refine dn_iconst (pc := 10) (v := 1) dX12_isPlain_10 rfl ?_
      refine dn_goto (pc := 11) 15 dX12_isPlain_11 rfl ?_
      exact dn_ret (Nat.le_of_ble_eq_true rfl) (Nat.le_of_ble_eq_true rfl) rfl dX12_isPlain_15
abbrev rmX12_takes : Room := { frames := 0, cells := 0, slots := 0, locals := 0 }
def fX12_takes (p0 : Int32) (p1 : Int32) : dnM Bool :=
  if p0 < 0 then
  (dnP false)
  else
  (if 12 ≤ p0 then
  (dnP false)
  else
  (if p1 < 0 then
  (dnP false)
  else
  (if 12 ≤ p1 then
  (dnP false)
  else
  (dnB (dnXT p0) fun v1 =>
  if ¬ ((v1 >>> (p1 &&& 31)) &&& 1) = 1 then
  (dnP false)
  else
  (dnP true)))))
abbrev jX12_takes (w : dnWd) (x : dnX) (b : Nat) := dnD w x b (fun _ => True) cX12_takes RX12 2 rmX12_takes "takes" eZ
set_option maxHeartbeats 4000000 in
set_option maxRecDepth 100000 in
theorem mX12_takes (w : dnWd) (x : dnX) (b : Nat) (p0 : Int32) (p1 : Int32) : dnMt w x b yX12_takes cX12_takes 2 (some .boolean) rmX12_takes eZ [.int p0, .int p1] (fX12_takes p0 p1) := by
  have hlv : lv_args 0 [.int p0, .int p1] = [(0, .int p0), (1, .int p1)] := by rfl
  refine dn_mt (by decide +kernel) roZ (by exact (Nat.le_of_ble_eq_true rfl)) ?_
  rw [hlv]
  refine dn_top ?_
  show jX12_takes w x b 0 0 0 _ [] (dnB _ dnP)
  unfold fX12_takes
  refine dn_iload_n (pc := 0) 0 dX12_takes_0 rfl ?_
  refine dn_if_lt (pc := 1) 37 dX12_takes_1 rfl (fun _ => ?_) (fun _ => ?_)
  · refine dn_iconst (pc := 37) (v := 0) dX12_takes_37 rfl ?_
    exact dn_ret (Nat.le_of_ble_eq_true rfl) (Nat.le_of_ble_eq_true rfl) rfl dX12_takes_38
  · refine dn_iload_n (pc := 4) 0 dX12_takes_4 rfl ?_
    refine dn_bipush (pc := 5) (v := 12) dX12_takes_5 rfl ?_
    refine dn_icmp_ge (pc := 7) 37 dX12_takes_7 rfl (fun _ => ?_) (fun _ => ?_)
    · refine dn_iconst (pc := 37) (v := 0) dX12_takes_37 rfl ?_
      exact dn_ret (Nat.le_of_ble_eq_true rfl) (Nat.le_of_ble_eq_true rfl) rfl dX12_takes_38
    · refine dn_iload_n (pc := 10) 1 dX12_takes_10 rfl ?_
      refine dn_if_lt (pc := 11) 37 dX12_takes_11 rfl (fun _ => ?_) (fun _ => ?_)
      · refine dn_iconst (pc := 37) (v := 0) dX12_takes_37 rfl ?_
        exact dn_ret (Nat.le_of_ble_eq_true rfl) (Nat.le_of_ble_eq_true rfl) rfl dX12_takes_38
      · refine dn_iload_n (pc := 14) 1 dX12_takes_14 rfl ?_
        refine dn_bipush (pc := 15) (v := 12) dX12_takes_15 rfl ?_
        refine dn_icmp_ge (pc := 17) 37 dX12_takes_17 rfl (fun _ => ?_) (fun _ => ?_)
        · refine dn_iconst (pc := 37) (v := 0) dX12_takes_37 rfl ?_
          exact dn_ret (Nat.le_of_ble_eq_true rfl) (Nat.le_of_ble_eq_true rfl) rfl dX12_takes_38
        · refine dn_getTK (pc := 20) kRX12_299 dX12_takes_20 ?_
          refine dn_iload_n (pc := 23) 0 dX12_takes_23 rfl ?_
          refine dn_ialdTK (pc := 24) dX12_takes_24 (fun v1 => ?_)
          refine dn_iload_n (pc := 25) 1 dX12_takes_25 rfl ?_
          refine dn_ishr (pc := 26) dX12_takes_26 ?_
          refine dn_iconst (pc := 27) (v := 1) dX12_takes_27 rfl ?_
          refine dn_iand (pc := 28) dX12_takes_28 ?_
          refine dn_iconst (pc := 29) (v := 1) dX12_takes_29 rfl ?_
          refine dn_icmp_ne (pc := 30) 37 dX12_takes_30 rfl (fun _ => ?_) (fun _ => ?_)
          · refine dn_iconst (pc := 37) (v := 0) dX12_takes_37 rfl ?_
            exact dn_ret (Nat.le_of_ble_eq_true rfl) (Nat.le_of_ble_eq_true rfl) rfl dX12_takes_38
          · refine dn_iconst (pc := 33) (v := 1) dX12_takes_33 rfl ?_
            refine dn_goto (pc := 34) 38 dX12_takes_34 rfl ?_
            exact dn_ret (Nat.le_of_ble_eq_true rfl) (Nat.le_of_ble_eq_true rfl) rfl dX12_takes_38
abbrev rmX12_readsAs : Room := { frames := 1, cells := 0, slots := 0, locals := 21 }
def fX12_readsAs (p0 : Int32) (p1 : Int32) : dnM Bool :=
  dnB (fX12_isPlain p0) fun v1 =>
  if v1 = true then
  (dnB (fX12_isPlain p1) fun v2 =>
  if v2 = true then
  (dnB (fX12_takes p1 p0) fun v3 =>
  if v3 = true then
  (dnP true)
  else
  (dnP false))
  else
  (dnP false))
  else
  (dnP false)
abbrev jX12_readsAs (w : dnWd) (x : dnX) (b : Nat) := dnD w x b (fun _ => True) cX12_readsAs RX12 2 rmX12_readsAs "readsAs" eZ
set_option maxHeartbeats 4000000 in
set_option maxRecDepth 100000 in
theorem mX12_readsAs (w : dnWd) (x : dnX) (b : Nat) (p0 : Int32) (p1 : Int32) : dnMt w x b yX12_readsAs cX12_readsAs 2 (some .boolean) rmX12_readsAs eZ [.int p0, .int p1] (fX12_readsAs p0 p1) := by
  have hlv : lv_args 0 [.int p0, .int p1] = [(0, .int p0), (1, .int p1)] := by rfl
  refine dn_mt (by decide +kernel) roZ (by exact (Nat.le_of_ble_eq_true rfl)) ?_
  rw [hlv]
  refine dn_top ?_
  show jX12_readsAs w x b 0 0 0 _ [] (dnB _ dnP)
  unfold fX12_readsAs
  refine dn_iload_n (pc := 0) 0 dX12_readsAs_0 rfl ?_
  refine dn_callS0Z (pc := 1) [.int p0]  kRX12_302 (mX12_isPlain w x b p0) rfl rfl (Nat.le_of_ble_eq_true rfl) ⟨(Nat.le_of_ble_eq_true rfl), (Nat.le_of_ble_eq_true rfl)⟩ ⟨rfl, rfl, (Nat.le_of_ble_eq_true rfl), (Nat.le_of_ble_eq_true rfl)⟩ dX12_readsAs_1 (fun v1 => ?_)
  refine dn_ifz_eq (pc := 4) 26 dX12_readsAs_4 rfl (fun _ => ?_) (fun _ => ?_)
  · refine dn_iload_n (pc := 7) 1 dX12_readsAs_7 rfl ?_
    refine dn_callS0Z (pc := 8) [.int p1]  kRX12_302 (mX12_isPlain w x b p1) rfl rfl (Nat.le_of_ble_eq_true rfl) ⟨(Nat.le_of_ble_eq_true rfl), (Nat.le_of_ble_eq_true rfl)⟩ ⟨rfl, rfl, (Nat.le_of_ble_eq_true rfl), (Nat.le_of_ble_eq_true rfl)⟩ dX12_readsAs_8 (fun v2 => ?_)
    refine dn_ifz_eq (pc := 11) 26 dX12_readsAs_11 rfl (fun _ => ?_) (fun _ => ?_)
    · refine dn_iload_n (pc := 14) 1 dX12_readsAs_14 rfl ?_
      refine dn_iload_n (pc := 15) 0 dX12_readsAs_15 rfl ?_
      refine dn_callS0Z (pc := 16) [.int p1, .int p0]  kRX12_305 (mX12_takes w x b p1 p0) rfl rfl (Nat.le_of_ble_eq_true rfl) ⟨(Nat.le_of_ble_eq_true rfl), (Nat.le_of_ble_eq_true rfl)⟩ ⟨rfl, rfl, (Nat.le_of_ble_eq_true rfl), (Nat.le_of_ble_eq_true rfl)⟩ dX12_readsAs_16 (fun v3 => ?_)
      refine dn_ifz_eq (pc := 19) 26 dX12_readsAs_19 rfl (fun _ => ?_) (fun _ => ?_)
      · refine dn_iconst (pc := 22) (v := 1) dX12_readsAs_22 rfl ?_
        refine dn_goto (pc := 23) 27 dX12_readsAs_23 rfl ?_
        exact dn_ret (Nat.le_of_ble_eq_true rfl) (Nat.le_of_ble_eq_true rfl) rfl dX12_readsAs_27
      · refine dn_iconst (pc := 26) (v := 0) dX12_readsAs_26 rfl ?_
        exact dn_ret (Nat.le_of_ble_eq_true rfl) (Nat.le_of_ble_eq_true rfl) rfl dX12_readsAs_27
    · refine dn_iconst (pc := 26) (v := 0) dX12_readsAs_26 rfl ?_
      exact dn_ret (Nat.le_of_ble_eq_true rfl) (Nat.le_of_ble_eq_true rfl) rfl dX12_readsAs_27
  · refine dn_iconst (pc := 26) (v := 0) dX12_readsAs_26 rfl ?_
    exact dn_ret (Nat.le_of_ble_eq_true rfl) (Nat.le_of_ble_eq_true rfl) rfl dX12_readsAs_27
abbrev rmX12_isReal : Room := { frames := 0, cells := 0, slots := 0, locals := 0 }
def fX12_isReal_j12 : dnM Bool :=
  dnP true
def fX12_isReal (p0 : Int32) : dnM Bool :=
  if p0 = 6 then
  (fX12_isReal_j12)
  else
  (if ¬ p0 = 7 then
  (dnP false)
  else
  (fX12_isReal_j12))
abbrev jX12_isReal (w : dnWd) (x : dnX) (b : Nat) := dnD w x b (fun _ => True) cX12_isReal RX12 1 rmX12_isReal "isReal" eZ
set_option maxHeartbeats 4000000 in
set_option maxRecDepth 100000 in
theorem mX12_isReal (w : dnWd) (x : dnX) (b : Nat) (p0 : Int32) : dnMt w x b yX12_isReal cX12_isReal 1 (some .boolean) rmX12_isReal eZ [.int p0] (fX12_isReal p0) := by
  have hlv : lv_args 0 [.int p0] = [(0, .int p0)] := by rfl
  refine dn_mt (by decide +kernel) roZ (by exact (Nat.le_of_ble_eq_true rfl)) ?_
  rw [hlv]
  refine dn_top ?_
  show jX12_isReal w x b 0 0 0 _ [] (dnB _ dnP)
  unfold fX12_isReal
  have hj12 : jX12_isReal w x b 12 0 0 [] [] (dnB (fX12_isReal_j12) dnP) := by
    unfold fX12_isReal_j12
    refine dn_iconst (pc := 12) (v := 1) dX12_isReal_12 rfl ?_
    refine dn_goto (pc := 13) 17 dX12_isReal_13 rfl ?_
    exact dn_ret (Nat.le_of_ble_eq_true rfl) (Nat.le_of_ble_eq_true rfl) rfl dX12_isReal_17
  refine dn_iload_n (pc := 0) 0 dX12_isReal_0 rfl ?_
  refine dn_bipush (pc := 1) (v := 6) dX12_isReal_1 rfl ?_
  refine dn_icmp_eq (pc := 3) 12 dX12_isReal_3 rfl (fun _ => ?_) (fun _ => ?_)
  · exact dn_lv [] rfl (hj12)
  · refine dn_iload_n (pc := 6) 0 dX12_isReal_6 rfl ?_
    refine dn_bipush (pc := 7) (v := 7) dX12_isReal_7 rfl ?_
    refine dn_icmp_ne (pc := 9) 16 dX12_isReal_9 rfl (fun _ => ?_) (fun _ => ?_)
    · refine dn_iconst (pc := 16) (v := 0) dX12_isReal_16 rfl ?_
      exact dn_ret (Nat.le_of_ble_eq_true rfl) (Nat.le_of_ble_eq_true rfl) rfl dX12_isReal_17
    · exact dn_lv [] rfl (hj12)
abbrev rmX5_doubleAt : Room := { frames := 1, cells := 0, slots := 0, locals := 20 }
def fX5_doubleAt (r0 : Option Nat) (p1 : Int32) : dnM UInt64 :=
  dnB (dnGR r0 4 3) fun v1 =>
  dnB (dnAI v1 100 p1) fun v2 =>
  dnB (fX12_isReal v2) fun v3 =>
  if v3 = true then
  (dnB (dnGR r0 4 5) fun v6 =>
  dnB (dnAD v6 103 p1) fun v7 =>
  dnP v7)
  else
  (dnB (dnGR r0 4 4) fun v4 =>
  dnB (dnAL v4 102 p1) fun v5 =>
  dnP (FP.l2d v5))
abbrev jX5_doubleAt (w : dnWd) (x : dnX) (b : Nat) := dnD w x b (fun _ => True) cX5_doubleAt RX5 2 rmX5_doubleAt "doubleAt" eD
set_option maxHeartbeats 4000000 in
set_option maxRecDepth 100000 in
theorem mX5_doubleAt (w : dnWd) (x : dnX) (b : Nat) (r0 : Option Nat) (p1 : Int32) : dnMt w x b yX5_doubleAt cX5_doubleAt 2 (some .double) rmX5_doubleAt eD [dnV b r0, .int p1] (fX5_doubleAt r0 p1) := by
  have hlv : lv_args 0 [dnV b r0, .int p1] = [(0, dnV b r0), (1, .int p1)] := by cases r0 <;> rfl
  refine dn_mt (by decide +kernel) roD (by cases r0 <;> exact (Nat.le_of_ble_eq_true rfl)) ?_
  rw [hlv]
  refine dn_top ?_
  show jX5_doubleAt w x b 0 0 0 _ [] (dnB _ dnP)
  unfold fX5_doubleAt
  refine dn_aload_n (pc := 0) r0 0 dX5_doubleAt_0 rfl ?_
  refine dn_getR (pc := 1) r0 lRX5_18 dX5_doubleAt_1 (fun v1 => ?_)
  refine dn_iload_n (pc := 4) 1 dX5_doubleAt_4 rfl ?_
  refine dn_iald (pc := 5) v1 dX5_doubleAt_5 (fun v2 => ?_)
  refine dn_callSN0Z (pc := 6) [.int v2]  kRX5_72 (mX12_isReal w x b v2) rfl rfl (Nat.le_of_ble_eq_true rfl) ⟨(Nat.le_of_ble_eq_true rfl), (Nat.le_of_ble_eq_true rfl)⟩ ⟨rfl, rfl, (Nat.le_of_ble_eq_true rfl), (Nat.le_of_ble_eq_true rfl)⟩ dX5_doubleAt_6 (fun v3 => ?_)
  refine dn_ifz_eq (pc := 9) 21 dX5_doubleAt_9 rfl (fun _ => ?_) (fun _ => ?_)
  · refine dn_aload_n (pc := 12) r0 0 dX5_doubleAt_12 rfl ?_
    refine dn_getR (pc := 13) r0 lRX5_26 dX5_doubleAt_13 (fun v6 => ?_)
    refine dn_iload_n (pc := 16) 1 dX5_doubleAt_16 rfl ?_
    refine dn_dald (pc := 17) v6 dX5_doubleAt_17 (fun v7 => ?_)
    refine dn_goto (pc := 18) 28 dX5_doubleAt_18 rfl ?_
    exact dn_ret (Nat.le_of_ble_eq_true rfl) (Nat.le_of_ble_eq_true rfl) rfl dX5_doubleAt_28
  · refine dn_aload_n (pc := 21) r0 0 dX5_doubleAt_21 rfl ?_
    refine dn_getR (pc := 22) r0 lRX5_22 dX5_doubleAt_22 (fun v4 => ?_)
    refine dn_iload_n (pc := 25) 1 dX5_doubleAt_25 rfl ?_
    refine dn_lald (pc := 26) v4 dX5_doubleAt_26 (fun v5 => ?_)
    refine dn_l2d (pc := 27) dX5_doubleAt_27 ?_
    exact dn_ret (Nat.le_of_ble_eq_true rfl) (Nat.le_of_ble_eq_true rfl) rfl dX5_doubleAt_28
abbrev rmX10_take : Room := { frames := 2, cells := 0, slots := 0, locals := 47 }
def fX10_take_j142 (l0 : Option Nat) : dnM Bool :=
  dnB (dnGI l0 8 5) fun v1 =>
  dnB (dnPI l0 8 5 (v1 + 1)) fun _ =>
  dnP true
def fX10_take_j138 (l0 : Option Nat) (s0 : Option Nat) (s1 : Int32) (s2 : Bool) : dnM Bool :=
  dnB (dnPI s0 8 4 (s1 + (dnZ s2))) fun _ =>
  fX10_take_j142 l0
def fX10_take_j118 (l0 : Option Nat) (l5 : Int64) (s0 : Option Nat) (s1 : Int64) : dnM Bool :=
  dnB (dnPL s0 8 2 s1) fun _ =>
  dnB (dnGI l0 8 4) fun v2 =>
  if (lg_cmp l5 0) = 0 then
  (fX10_take_j138 l0 l0 v2 false)
  else
  (fX10_take_j138 l0 l0 v2 true)
def fX10_take_j75 (l0 : Option Nat) (s0 : Option Nat) (s1 : Int32) (s2 : Bool) : dnM Bool :=
  dnB (dnPI s0 8 4 (s1 + (dnZ s2))) fun _ =>
  fX10_take_j142 l0
def fX10_take_j55 (l0 : Option Nat) (l5 : UInt64) (s0 : Option Nat) (s1 : UInt64) : dnM Bool :=
  dnB (dnPD s0 8 3 s1) fun _ =>
  dnB (dnGI l0 8 4) fun v3 =>
  if (Op.cmpValue (FP.dcmp l5 FP.dconst0) .l) = 0 then
  (fX10_take_j75 l0 l0 v3 false)
  else
  (fX10_take_j75 l0 l0 v3 true)
def fX10_take (r0 : Option Nat) (r1 : Option Nat) (p2 : Int32) (p3 : Int32) (p4 : Int32) : dnM Bool :=
  r1.elim
  (dnP false)
  (fun v4 => dnB (dnGI (some v4) 4 1) fun v5 =>
  dnB (fX12_readsAs v5 p4) fun v6 =>
  if v6 = true then
  (if ¬ p4 = 7 then
  (dnB (dnGR (some v4) 4 4) fun v7 =>
  dnB (dnAL v7 102 p2) fun v8 =>
  dnB (dnGI r0 8 5) fun v9 =>
  if ¬ v9 = 0 then
  (dnB (dnGL r0 8 2) fun v10 =>
  dnB (fX10_combineWholes p3 v10 v8) fun v11 =>
  dnB (fX12_narrowed p4 v11) fun v12 =>
  fX10_take_j118 r0 v8 r0 v12)
  else
  (fX10_take_j118 r0 v8 r0 v8))
  else
  (dnB (dnCv (some v4) 4 (fX5_doubleAt (some v4) p2)) fun v13 =>
  dnB (dnGI r0 8 5) fun v14 =>
  if ¬ v14 = 0 then
  (dnB (dnGD r0 8 3) fun v15 =>
  dnB (fX10_combineReals p3 v15 v13) fun v16 =>
  fX10_take_j55 r0 v13 r0 v16)
  else
  (fX10_take_j55 r0 v13 r0 v13)))
  else
  (dnP false))
abbrev jX10_take (w : dnWd) (x : dnX) (b : Nat) := dnD w x b (fun _ => True) cX10_take RX10 7 rmX10_take "take" eZ
set_option maxHeartbeats 4000000 in
set_option maxRecDepth 100000 in
theorem mX10_take (w : dnWd) (x : dnX) (b : Nat) (r0 : Option Nat) (r1 : Option Nat) (p2 : Int32) (p3 : Int32) (p4 : Int32) : dnMt w x b yX10_take cX10_take 7 (some .boolean) rmX10_take eZ [dnV b r0, dnV b r1, .int p2, .int p3, .int p4] (fX10_take r0 r1 p2 p3 p4) := by
  have hlv : lv_args 0 [dnV b r0, dnV b r1, .int p2, .int p3, .int p4] = [(0, dnV b r0), (1, dnV b r1), (2, .int p2), (3, .int p3), (4, .int p4)] := by cases r0 <;> cases r1 <;> rfl
  refine dn_mt (by decide +kernel) roZ (by cases r0 <;> cases r1 <;> exact (Nat.le_of_ble_eq_true rfl)) ?_
  rw [hlv]
  refine dn_top ?_
  show jX10_take w x b 0 0 0 _ [] (dnB _ dnP)
  unfold fX10_take
  have hj142 : ∀ (l0 : Option Nat), jX10_take w x b 142 0 0 [(0, dnV b l0)] [] (dnB (fX10_take_j142 l0) dnP) := by
    intro l0
    unfold fX10_take_j142
    refine dn_aload_n (pc := 142) l0 0 dX10_take_142 rfl ?_
    refine dn_dup (pc := 143) dX10_take_143 (dn_cat b _) ?_
    refine dn_getI (pc := 144) l0 lRX10_35 dX10_take_144 (fun v1 => ?_)
    refine dn_iconst (pc := 147) (v := 1) dX10_take_147 rfl ?_
    refine dn_iadd (pc := 148) dX10_take_148 ?_
    refine dn_putI (pc := 149) l0 lRX10_35 dX10_take_149 ?_
    refine dn_iconst (pc := 152) (v := 1) dX10_take_152 rfl ?_
    exact dn_ret (Nat.le_of_ble_eq_true rfl) (Nat.le_of_ble_eq_true rfl) rfl dX10_take_153
  have hj138 : ∀ (l0 : Option Nat) (s0 : Option Nat) (s1 : Int32) (s2 : Bool), jX10_take w x b 138 0 0 [(0, dnV b l0)] [.int (dnZ s2), .int s1, dnV b s0] (dnB (fX10_take_j138 l0 s0 s1 s2) dnP) := by
    intro l0 s0 s1 s2
    unfold fX10_take_j138
    refine dn_iadd (pc := 138) dX10_take_138 ?_
    refine dn_putI (pc := 139) s0 lRX10_31 dX10_take_139 ?_
    exact dn_lv [0] rfl (hj142 l0)
  have hj118 : ∀ (l0 : Option Nat) (l5 : Int64) (s0 : Option Nat) (s1 : Int64), jX10_take w x b 118 0 0 [(0, dnV b l0), (5, .long l5)] [.long s1, dnV b s0] (dnB (fX10_take_j118 l0 l5 s0 s1) dnP) := by
    intro l0 l5 s0 s1
    unfold fX10_take_j118
    refine dn_putL (pc := 118) s0 lRX10_23 dX10_take_118 ?_
    refine dn_aload_n (pc := 121) l0 0 dX10_take_121 rfl ?_
    refine dn_dup (pc := 122) dX10_take_122 (dn_cat b _) ?_
    refine dn_getI (pc := 123) l0 lRX10_31 dX10_take_123 (fun v2 => ?_)
    refine dn_lload (pc := 126) 1 dX10_take_126 rfl ?_
    refine dn_lconst (pc := 128) (v := 0) dX10_take_128 rfl ?_
    refine dn_lcmp (pc := 129) dX10_take_129 ?_
    refine dn_if_eq (pc := 130) 137 dX10_take_130 rfl (fun _ => ?_) (fun _ => ?_)
    · refine dn_iconst (pc := 137) (v := 0) dX10_take_137 rfl ?_
      exact dn_lv [0] rfl (hj138 l0 l0 v2 false)
    · refine dn_iconst (pc := 133) (v := 1) dX10_take_133 rfl ?_
      refine dn_goto (pc := 134) 138 dX10_take_134 rfl ?_
      exact dn_lv [0] rfl (hj138 l0 l0 v2 true)
  have hj75 : ∀ (l0 : Option Nat) (s0 : Option Nat) (s1 : Int32) (s2 : Bool), jX10_take w x b 75 0 0 [(0, dnV b l0)] [.int (dnZ s2), .int s1, dnV b s0] (dnB (fX10_take_j75 l0 s0 s1 s2) dnP) := by
    intro l0 s0 s1 s2
    unfold fX10_take_j75
    refine dn_iadd (pc := 75) dX10_take_75 ?_
    refine dn_putI (pc := 76) s0 lRX10_31 dX10_take_76 ?_
    refine dn_goto (pc := 79) 142 dX10_take_79 rfl ?_
    exact dn_lv [0] rfl (hj142 l0)
  have hj55 : ∀ (l0 : Option Nat) (l5 : UInt64) (s0 : Option Nat) (s1 : UInt64), jX10_take w x b 55 0 0 [(0, dnV b l0), (5, .double l5)] [.double s1, dnV b s0] (dnB (fX10_take_j55 l0 l5 s0 s1) dnP) := by
    intro l0 l5 s0 s1
    unfold fX10_take_j55
    refine dn_putD (pc := 55) s0 lRX10_27 dX10_take_55 ?_
    refine dn_aload_n (pc := 58) l0 0 dX10_take_58 rfl ?_
    refine dn_dup (pc := 59) dX10_take_59 (dn_cat b _) ?_
    refine dn_getI (pc := 60) l0 lRX10_31 dX10_take_60 (fun v3 => ?_)
    refine dn_dload (pc := 63) 1 dX10_take_63 rfl ?_
    refine dn_dconst0 (pc := 65) dX10_take_65 ?_
    refine dn_dcmp (pc := 66) dX10_take_66 ?_
    refine dn_if_eq (pc := 67) 74 dX10_take_67 rfl (fun _ => ?_) (fun _ => ?_)
    · refine dn_iconst (pc := 74) (v := 0) dX10_take_74 rfl ?_
      exact dn_lv [0] rfl (hj75 l0 l0 v3 false)
    · refine dn_iconst (pc := 70) (v := 1) dX10_take_70 rfl ?_
      refine dn_goto (pc := 71) 75 dX10_take_71 rfl ?_
      exact dn_lv [0] rfl (hj75 l0 l0 v3 true)
  refine dn_aload_n (pc := 0) r1 1 dX10_take_0 rfl ?_
  refine dn_ifnull (pc := 1) r1 16 dX10_take_1 rfl (fun e_ => ?_) (fun v4 e_ => ?_)
  · subst e_
    refine dn_iconst (pc := 16) (v := 0) dX10_take_16 rfl ?_
    exact dn_ret (Nat.le_of_ble_eq_true rfl) (Nat.le_of_ble_eq_true rfl) rfl dX10_take_17
  · subst e_
    refine dn_aload_n (pc := 4) (some v4) 1 dX10_take_4 rfl ?_
    refine dn_getI (pc := 5) (some v4) lRX10_88 dX10_take_5 (fun v5 => ?_)
    refine dn_iload (pc := 8) 4 dX10_take_8 rfl ?_
    refine dn_callSN0Z (pc := 10) [.int v5, .int p4]  kRX10_93 (mX12_readsAs w x b v5 p4) rfl rfl (Nat.le_of_ble_eq_true rfl) ⟨(Nat.le_of_ble_eq_true rfl), (Nat.le_of_ble_eq_true rfl)⟩ ⟨rfl, rfl, (Nat.le_of_ble_eq_true rfl), (Nat.le_of_ble_eq_true rfl)⟩ dX10_take_10 (fun v6 => ?_)
    refine dn_ifz_ne (pc := 13) 18 dX10_take_13 rfl (fun _ => ?_) (fun _ => ?_)
    · refine dn_iload (pc := 18) 4 dX10_take_18 rfl ?_
      refine dn_bipush (pc := 20) (v := 7) dX10_take_20 rfl ?_
      refine dn_icmp_ne (pc := 22) 82 dX10_take_22 rfl (fun _ => ?_) (fun _ => ?_)
      · refine dn_aload_n (pc := 82) (some v4) 1 dX10_take_82 rfl ?_
        refine dn_getR (pc := 83) (some v4) lRX10_105 dX10_take_83 (fun v7 => ?_)
        refine dn_iload_n (pc := 86) 2 dX10_take_86 rfl ?_
        refine dn_lald (pc := 87) v7 dX10_take_87 (fun v8 => ?_)
        refine dn_lstore (pc := 88) dX10_take_88 (Nat.le_of_ble_eq_true rfl) (dnKp_nb 4 rfl rfl rfl (dnKp_of (lv2 := [(0, dnV b r0), (3, .int p3)]) [0, 3] rfl rfl)) ?_
        refine dn_aload_n (pc := 90) r0 2 dX10_take_90 rfl ?_
        refine dn_aload_n (pc := 91) r0 2 dX10_take_91 rfl ?_
        refine dn_getI (pc := 92) r0 lRX10_35 dX10_take_92 (fun v9 => ?_)
        refine dn_if_ne (pc := 95) 103 dX10_take_95 rfl (fun _ => ?_) (fun _ => ?_)
        · refine dn_iload (pc := 103) 1 dX10_take_103 rfl ?_
          refine dn_iload_n (pc := 105) 3 dX10_take_105 rfl ?_
          refine dn_aload_n (pc := 106) r0 2 dX10_take_106 rfl ?_
          refine dn_getL (pc := 107) r0 lRX10_23 dX10_take_107 (fun v10 => ?_)
          refine dn_lload (pc := 110) 0 dX10_take_110 rfl ?_
          refine dn_callS0L (pc := 112) [.int p3, .long v10, .long v8]  kRX10_108 (mX10_combineWholes w x b p3 v10 v8) rfl rfl (Nat.le_of_ble_eq_true rfl) ⟨(Nat.le_of_ble_eq_true rfl), (Nat.le_of_ble_eq_true rfl)⟩ ⟨rfl, rfl, (Nat.le_of_ble_eq_true rfl), (Nat.le_of_ble_eq_true rfl)⟩ dX10_take_112 (fun v11 => ?_)
          refine dn_callSN0L (pc := 115) [.int p4, .long v11]  kRX10_112 (mX12_narrowed w x b p4 v11) rfl rfl (Nat.le_of_ble_eq_true rfl) ⟨(Nat.le_of_ble_eq_true rfl), (Nat.le_of_ble_eq_true rfl)⟩ ⟨rfl, rfl, (Nat.le_of_ble_eq_true rfl), (Nat.le_of_ble_eq_true rfl)⟩ dX10_take_115 (fun v12 => ?_)
          exact dn_lv [2, 0] rfl (hj118 r0 v8 r0 v12)
        · refine dn_lload (pc := 98) 0 dX10_take_98 rfl ?_
          refine dn_goto (pc := 100) 118 dX10_take_100 rfl ?_
          exact dn_lv [2, 0] rfl (hj118 r0 v8 r0 v8)
      · refine dn_aload_n (pc := 25) (some v4) 1 dX10_take_25 rfl ?_
        refine dn_iload_n (pc := 26) 2 dX10_take_26 rfl ?_
        refine dn_callV0D (pc := 27) [.int p2] (some v4) kRX10_97 (mX5_doubleAt w x b (some v4) p2) rfl rfl (Nat.le_of_ble_eq_true rfl) ⟨(Nat.le_of_ble_eq_true rfl), (Nat.le_of_ble_eq_true rfl)⟩ ⟨rfl, rfl, (Nat.le_of_ble_eq_true rfl), (Nat.le_of_ble_eq_true rfl)⟩ dX10_take_27 (fun v13 => ?_)
        refine dn_dstore (pc := 30) dX10_take_30 (Nat.le_of_ble_eq_true rfl) (dnKp_of (lv2 := [(0, dnV b r0), (3, .int p3)]) [0, 3] rfl rfl) ?_
        refine dn_aload_n (pc := 32) r0 1 dX10_take_32 rfl ?_
        refine dn_aload_n (pc := 33) r0 1 dX10_take_33 rfl ?_
        refine dn_getI (pc := 34) r0 lRX10_35 dX10_take_34 (fun v14 => ?_)
        refine dn_if_ne (pc := 37) 45 dX10_take_37 rfl (fun _ => ?_) (fun _ => ?_)
        · refine dn_iload_n (pc := 45) 2 dX10_take_45 rfl ?_
          refine dn_aload_n (pc := 46) r0 1 dX10_take_46 rfl ?_
          refine dn_getD (pc := 47) r0 lRX10_27 dX10_take_47 (fun v15 => ?_)
          refine dn_dload (pc := 50) 0 dX10_take_50 rfl ?_
          refine dn_callS0D (pc := 52) [.int p3, .double v15, .double v13]  kRX10_101 (mX10_combineReals w x b p3 v15 v13) rfl rfl (Nat.le_of_ble_eq_true rfl) ⟨(Nat.le_of_ble_eq_true rfl), (Nat.le_of_ble_eq_true rfl)⟩ ⟨rfl, rfl, (Nat.le_of_ble_eq_true rfl), (Nat.le_of_ble_eq_true rfl)⟩ dX10_take_52 (fun v16 => ?_)
          exact dn_lv [1, 0] rfl (hj55 r0 v13 r0 v16)
        · refine dn_dload (pc := 40) 0 dX10_take_40 rfl ?_
          refine dn_goto (pc := 42) 55 dX10_take_42 rfl ?_
          exact dn_lv [1, 0] rfl (hj55 r0 v13 r0 v13)
    · refine dn_iconst (pc := 16) (v := 0) dX10_take_16 rfl ?_
      exact dn_ret (Nat.le_of_ble_eq_true rfl) (Nat.le_of_ble_eq_true rfl) rfl dX10_take_17
abbrev rmX12_codeOfReal : Room := { frames := 0, cells := 0, slots := 0, locals := 0 }
def fX12_codeOfReal (p0 : UInt64) : dnM Int64 :=
  dnB (dnN64 (FP.dmul 4620693217682128896 p0)) fun v1 =>
  dnP (FP.d2l v1)
abbrev jX12_codeOfReal (w : dnWd) (x : dnX) (b : Nat) := dnD w x b (fun _ => True) cX12_codeOfReal RX12 2 rmX12_codeOfReal "codeOfReal" eL
set_option maxHeartbeats 4000000 in
set_option maxRecDepth 100000 in
theorem mX12_codeOfReal (w : dnWd) (x : dnX) (b : Nat) (p0 : UInt64) : dnMt w x b yX12_codeOfReal cX12_codeOfReal 2 (some .long) rmX12_codeOfReal eL [.double p0] (fX12_codeOfReal p0) := by
  have hlv : lv_args 0 [.double p0] = [(0, .double p0)] := by rfl
  refine dn_mt (by decide +kernel) roL (by exact (Nat.le_of_ble_eq_true rfl)) ?_
  rw [hlv]
  refine dn_top ?_
  show jX12_codeOfReal w x b 0 0 0 _ [] (dnB _ dnP)
  unfold fX12_codeOfReal
  refine dn_ldc2d (pc := 0) kRX12_311 dX12_codeOfReal_0 ?_
  refine dn_dload_n (pc := 3) 0 dX12_codeOfReal_3 rfl ?_
  refine dn_dmul (pc := 4) dX12_codeOfReal_4 (fun v1 => ?_)
  refine dn_d2l (pc := 5) dX12_codeOfReal_5 ?_
  exact dn_ret (Nat.le_of_ble_eq_true rfl) (Nat.le_of_ble_eq_true rfl) rfl dX12_codeOfReal_6
abbrev rmX12_isGrid : Room := { frames := 0, cells := 0, slots := 0, locals := 0 }
def fX12_isGrid (p0 : Int32) : dnM Bool :=
  if p0 < 0 then
  (dnP false)
  else
  (if 4 ≤ p0 then
  (dnP false)
  else
  (dnP true))
abbrev jX12_isGrid (w : dnWd) (x : dnX) (b : Nat) := dnD w x b (fun _ => True) cX12_isGrid RX12 1 rmX12_isGrid "isGrid" eZ
set_option maxHeartbeats 4000000 in
set_option maxRecDepth 100000 in
theorem mX12_isGrid (w : dnWd) (x : dnX) (b : Nat) (p0 : Int32) : dnMt w x b yX12_isGrid cX12_isGrid 1 (some .boolean) rmX12_isGrid eZ [.int p0] (fX12_isGrid p0) := by
  have hlv : lv_args 0 [.int p0] = [(0, .int p0)] := by rfl
  refine dn_mt (by decide +kernel) roZ (by exact (Nat.le_of_ble_eq_true rfl)) ?_
  rw [hlv]
  refine dn_top ?_
  show jX12_isGrid w x b 0 0 0 _ [] (dnB _ dnP)
  unfold fX12_isGrid
  refine dn_iload_n (pc := 0) 0 dX12_isGrid_0 rfl ?_
  refine dn_if_lt (pc := 1) 13 dX12_isGrid_1 rfl (fun _ => ?_) (fun _ => ?_)
  · refine dn_iconst (pc := 13) (v := 0) dX12_isGrid_13 rfl ?_
    exact dn_ret (Nat.le_of_ble_eq_true rfl) (Nat.le_of_ble_eq_true rfl) rfl dX12_isGrid_14
  · refine dn_iload_n (pc := 4) 0 dX12_isGrid_4 rfl ?_
    refine dn_iconst (pc := 5) (v := 4) dX12_isGrid_5 rfl ?_
    refine dn_icmp_ge (pc := 6) 13 dX12_isGrid_6 rfl (fun _ => ?_) (fun _ => ?_)
    · refine dn_iconst (pc := 13) (v := 0) dX12_isGrid_13 rfl ?_
      exact dn_ret (Nat.le_of_ble_eq_true rfl) (Nat.le_of_ble_eq_true rfl) rfl dX12_isGrid_14
    · refine dn_iconst (pc := 9) (v := 1) dX12_isGrid_9 rfl ?_
      refine dn_goto (pc := 10) 14 dX12_isGrid_10 rfl ?_
      exact dn_ret (Nat.le_of_ble_eq_true rfl) (Nat.le_of_ble_eq_true rfl) rfl dX12_isGrid_14
abbrev rmX9_hasPlace : Room := { frames := 0, cells := 0, slots := 0, locals := 0 }
def fX9_hasPlace (r0 : Option Nat) (p1 : Int32) (p2 : Int32) : dnM Bool :=
  if p1 < 0 then
  (dnP false)
  else
  (if 4 ≤ p1 then
  (dnP false)
  else
  (if p2 < 0 then
  (dnP false)
  else
  (dnB (dnGR r0 7 0) fun v1 =>
  dnB (dnAI v1 100 p1) fun v2 =>
  if v2 ≤ p2 then
  (dnP false)
  else
  (dnP true))))
abbrev jX9_hasPlace (w : dnWd) (x : dnX) (b : Nat) := dnD w x b (fun _ => True) cX9_hasPlace RX9 3 rmX9_hasPlace "hasPlace" eZ
set_option maxHeartbeats 4000000 in
set_option maxRecDepth 100000 in
theorem mX9_hasPlace (w : dnWd) (x : dnX) (b : Nat) (r0 : Option Nat) (p1 : Int32) (p2 : Int32) : dnMt w x b yX9_hasPlace cX9_hasPlace 3 (some .boolean) rmX9_hasPlace eZ [dnV b r0, .int p1, .int p2] (fX9_hasPlace r0 p1 p2) := by
  have hlv : lv_args 0 [dnV b r0, .int p1, .int p2] = [(0, dnV b r0), (1, .int p1), (2, .int p2)] := by cases r0 <;> rfl
  refine dn_mt (by decide +kernel) roZ (by cases r0 <;> exact (Nat.le_of_ble_eq_true rfl)) ?_
  rw [hlv]
  refine dn_top ?_
  show jX9_hasPlace w x b 0 0 0 _ [] (dnB _ dnP)
  unfold fX9_hasPlace
  refine dn_iload_n (pc := 0) 1 dX9_hasPlace_0 rfl ?_
  refine dn_if_lt (pc := 1) 27 dX9_hasPlace_1 rfl (fun _ => ?_) (fun _ => ?_)
  · refine dn_iconst (pc := 27) (v := 0) dX9_hasPlace_27 rfl ?_
    exact dn_ret (Nat.le_of_ble_eq_true rfl) (Nat.le_of_ble_eq_true rfl) rfl dX9_hasPlace_28
  · refine dn_iload_n (pc := 4) 1 dX9_hasPlace_4 rfl ?_
    refine dn_iconst (pc := 5) (v := 4) dX9_hasPlace_5 rfl ?_
    refine dn_icmp_ge (pc := 6) 27 dX9_hasPlace_6 rfl (fun _ => ?_) (fun _ => ?_)
    · refine dn_iconst (pc := 27) (v := 0) dX9_hasPlace_27 rfl ?_
      exact dn_ret (Nat.le_of_ble_eq_true rfl) (Nat.le_of_ble_eq_true rfl) rfl dX9_hasPlace_28
    · refine dn_iload_n (pc := 9) 2 dX9_hasPlace_9 rfl ?_
      refine dn_if_lt (pc := 10) 27 dX9_hasPlace_10 rfl (fun _ => ?_) (fun _ => ?_)
      · refine dn_iconst (pc := 27) (v := 0) dX9_hasPlace_27 rfl ?_
        exact dn_ret (Nat.le_of_ble_eq_true rfl) (Nat.le_of_ble_eq_true rfl) rfl dX9_hasPlace_28
      · refine dn_iload_n (pc := 13) 2 dX9_hasPlace_13 rfl ?_
        refine dn_aload_n (pc := 14) r0 0 dX9_hasPlace_14 rfl ?_
        refine dn_getR (pc := 15) r0 lRX9_9 dX9_hasPlace_15 (fun v1 => ?_)
        refine dn_iload_n (pc := 18) 1 dX9_hasPlace_18 rfl ?_
        refine dn_iald (pc := 19) v1 dX9_hasPlace_19 (fun v2 => ?_)
        refine dn_icmp_ge (pc := 20) 27 dX9_hasPlace_20 rfl (fun _ => ?_) (fun _ => ?_)
        · refine dn_iconst (pc := 27) (v := 0) dX9_hasPlace_27 rfl ?_
          exact dn_ret (Nat.le_of_ble_eq_true rfl) (Nat.le_of_ble_eq_true rfl) rfl dX9_hasPlace_28
        · refine dn_iconst (pc := 23) (v := 1) dX9_hasPlace_23 rfl ?_
          refine dn_goto (pc := 24) 28 dX9_hasPlace_24 rfl ?_
          exact dn_ret (Nat.le_of_ble_eq_true rfl) (Nat.le_of_ble_eq_true rfl) rfl dX9_hasPlace_28
abbrev rmX9_rowAt : Room := { frames := 1, cells := 0, slots := 0, locals := 22 }
def fX9_rowAt (r0 : Option Nat) (p1 : Int32) (p2 : Int32) : dnM (Option Nat) :=
  dnB (dnCv r0 7 (fX9_hasPlace r0 p1 p2)) fun v1 =>
  if v1 = true then
  (dnB (dnGR r0 7 1) fun v2 =>
  dnB (dnAI v2 100 ((p1 * 6) + p2)) fun v3 =>
  if 0 ≤ v3 then
  (dnB (dnGR r0 7 2) fun v4 =>
  dnB (dnAR v4 104 v3) fun v5 =>
  dnP v5)
  else
  (dnP none))
  else
  (dnP none)
abbrev jX9_rowAt (w : dnWd) (x : dnX) (b : Nat) := dnD w x b (fun _ => True) cX9_rowAt RX9 4 rmX9_rowAt "rowAt" (eR b)
set_option maxHeartbeats 4000000 in
set_option maxRecDepth 100000 in
theorem mX9_rowAt (w : dnWd) (x : dnX) (b : Nat) (r0 : Option Nat) (p1 : Int32) (p2 : Int32) : dnMt w x b yX9_rowAt cX9_rowAt 4 (some (.object "KindGrids$Row")) rmX9_rowAt (eR b) [dnV b r0, .int p1, .int p2] (fX9_rowAt r0 p1 p2) := by
  have hlv : lv_args 0 [dnV b r0, .int p1, .int p2] = [(0, dnV b r0), (1, .int p1), (2, .int p2)] := by cases r0 <;> rfl
  refine dn_mt (by decide +kernel) roR (by cases r0 <;> exact (Nat.le_of_ble_eq_true rfl)) ?_
  rw [hlv]
  refine dn_top ?_
  show jX9_rowAt w x b 0 0 0 _ [] (dnB _ dnP)
  unfold fX9_rowAt
  refine dn_aload_n (pc := 0) r0 0 dX9_rowAt_0 rfl ?_
  refine dn_iload_n (pc := 1) 1 dX9_rowAt_1 rfl ?_
  refine dn_iload_n (pc := 2) 2 dX9_rowAt_2 rfl ?_
  refine dn_callV0Z (pc := 3) [.int p1, .int p2] r0 kRX9_43 (mX9_hasPlace w x b r0 p1 p2) rfl rfl (Nat.le_of_ble_eq_true rfl) ⟨(Nat.le_of_ble_eq_true rfl), (Nat.le_of_ble_eq_true rfl)⟩ ⟨rfl, rfl, (Nat.le_of_ble_eq_true rfl), (Nat.le_of_ble_eq_true rfl)⟩ dX9_rowAt_3 (fun v1 => ?_)
  refine dn_ifz_ne (pc := 6) 11 dX9_rowAt_6 rfl (fun _ => ?_) (fun _ => ?_)
  · refine dn_aload_n (pc := 11) r0 0 dX9_rowAt_11 rfl ?_
    refine dn_getR (pc := 12) r0 lRX9_15 dX9_rowAt_12 (fun v2 => ?_)
    refine dn_iload_n (pc := 15) 1 dX9_rowAt_15 rfl ?_
    refine dn_bipush (pc := 16) (v := 6) dX9_rowAt_16 rfl ?_
    refine dn_imul (pc := 18) dX9_rowAt_18 ?_
    refine dn_iload_n (pc := 19) 2 dX9_rowAt_19 rfl ?_
    refine dn_iadd (pc := 20) dX9_rowAt_20 ?_
    refine dn_iald (pc := 21) v2 dX9_rowAt_21 (fun v3 => ?_)
    refine dn_istore_n (pc := 22) dX9_rowAt_22 (Nat.le_of_ble_eq_true rfl) (dnKp_of (lv2 := [(0, dnV b r0)]) [0] rfl rfl) ?_
    refine dn_iload_n (pc := 23) 0 dX9_rowAt_23 rfl ?_
    refine dn_if_ge (pc := 24) 31 dX9_rowAt_24 rfl (fun _ => ?_) (fun _ => ?_)
    · refine dn_aload_n (pc := 31) r0 1 dX9_rowAt_31 rfl ?_
      refine dn_getR (pc := 32) r0 lRX9_20 dX9_rowAt_32 (fun v4 => ?_)
      refine dn_iload_n (pc := 35) 0 dX9_rowAt_35 rfl ?_
      refine dn_aaldW (pc := 36) v4 dX9_rowAt_36 (fun v5 => ?_)
      exact dn_ret (Nat.le_of_ble_eq_true rfl) (Nat.le_of_ble_eq_true rfl) rfl (dn_raR dX9_rowAt_37)
    · refine dn_null (pc := 27) dX9_rowAt_27 ?_
      refine dn_goto (pc := 28) 37 dX9_rowAt_28 rfl ?_
      exact dn_ret (Nat.le_of_ble_eq_true rfl) (Nat.le_of_ble_eq_true rfl) rfl (dn_raR dX9_rowAt_37)
  · refine dn_null (pc := 9) dX9_rowAt_9 ?_
    exact dn_ret (Nat.le_of_ble_eq_true rfl) (Nat.le_of_ble_eq_true rfl) rfl (dn_raR dX9_rowAt_10)
abbrev rmX9_cellsAt : Room := { frames := 2, cells := 0, slots := 0, locals := 45 }
def fX9_cellsAt (r0 : Option Nat) (p1 : Int32) (p2 : Int32) : dnM Int32 :=
  dnB (dnCv r0 7 (fX9_rowAt r0 p1 p2)) fun v1 =>
  v1.elim
  (dnP 0)
  (fun v2 => dnB (dnGI (some v2) 4 2) fun v3 =>
  dnP v3)
abbrev jX9_cellsAt (w : dnWd) (x : dnX) (b : Nat) := dnD w x b (fun _ => True) cX9_cellsAt RX9 4 rmX9_cellsAt "cellsAt" eI
set_option maxHeartbeats 4000000 in
set_option maxRecDepth 100000 in
theorem mX9_cellsAt (w : dnWd) (x : dnX) (b : Nat) (r0 : Option Nat) (p1 : Int32) (p2 : Int32) : dnMt w x b yX9_cellsAt cX9_cellsAt 4 (some .int) rmX9_cellsAt eI [dnV b r0, .int p1, .int p2] (fX9_cellsAt r0 p1 p2) := by
  have hlv : lv_args 0 [dnV b r0, .int p1, .int p2] = [(0, dnV b r0), (1, .int p1), (2, .int p2)] := by cases r0 <;> rfl
  refine dn_mt (by decide +kernel) roI (by cases r0 <;> exact (Nat.le_of_ble_eq_true rfl)) ?_
  rw [hlv]
  refine dn_top ?_
  show jX9_cellsAt w x b 0 0 0 _ [] (dnB _ dnP)
  unfold fX9_cellsAt
  refine dn_aload_n (pc := 0) r0 0 dX9_cellsAt_0 rfl ?_
  refine dn_iload_n (pc := 1) 1 dX9_cellsAt_1 rfl ?_
  refine dn_iload_n (pc := 2) 2 dX9_cellsAt_2 rfl ?_
  refine dn_callV0R (pc := 3) [.int p1, .int p2] r0 kRX9_94 (mX9_rowAt w x b r0 p1 p2) rfl rfl (Nat.le_of_ble_eq_true rfl) ⟨(Nat.le_of_ble_eq_true rfl), (Nat.le_of_ble_eq_true rfl)⟩ ⟨rfl, rfl, (Nat.le_of_ble_eq_true rfl), (Nat.le_of_ble_eq_true rfl)⟩ dX9_cellsAt_3 (fun v1 => ?_)
  refine dn_astore_n (pc := 6) v1 dX9_cellsAt_6 (Nat.le_of_ble_eq_true rfl) (dnKp_of (lv2 := []) [] rfl rfl) ?_
  refine dn_aload_n (pc := 7) v1 0 dX9_cellsAt_7 rfl ?_
  refine dn_ifnonnull (pc := 8) v1 15 dX9_cellsAt_8 rfl (fun e_ => ?_) (fun v2 e_ => ?_)
  · subst e_
    refine dn_iconst (pc := 11) (v := 0) dX9_cellsAt_11 rfl ?_
    refine dn_goto (pc := 12) 19 dX9_cellsAt_12 rfl ?_
    exact dn_ret (Nat.le_of_ble_eq_true rfl) (Nat.le_of_ble_eq_true rfl) rfl dX9_cellsAt_19
  · subst e_
    refine dn_aload_n (pc := 15) (some v2) 0 dX9_cellsAt_15 rfl ?_
    refine dn_getI (pc := 16) (some v2) lRX9_103 dX9_cellsAt_16 (fun v3 => ?_)
    exact dn_ret (Nat.le_of_ble_eq_true rfl) (Nat.le_of_ble_eq_true rfl) rfl dX9_cellsAt_19
abbrev rmX9_gridFault : Room := { frames := 1, cells := 0, slots := 0, locals := 20 }
def fX9_gridFault (r0 : Option Nat) (p1 : Int32) : dnM Int32 :=
  dnB (fX12_isGrid p1) fun v1 =>
  if v1 = true then
  (dnB (dnGR r0 7 0) fun v2 =>
  dnB (dnAI v2 100 p1) fun v3 =>
  if 0 ≤ v3 then
  (dnP 0)
  else
  (dnP (-2)))
  else
  (dnP (-1))
abbrev jX9_gridFault (w : dnWd) (x : dnX) (b : Nat) := dnD w x b (fun _ => True) cX9_gridFault RX9 2 rmX9_gridFault "gridFault" eI
set_option maxHeartbeats 4000000 in
set_option maxRecDepth 100000 in
theorem mX9_gridFault (w : dnWd) (x : dnX) (b : Nat) (r0 : Option Nat) (p1 : Int32) : dnMt w x b yX9_gridFault cX9_gridFault 2 (some .int) rmX9_gridFault eI [dnV b r0, .int p1] (fX9_gridFault r0 p1) := by
  have hlv : lv_args 0 [dnV b r0, .int p1] = [(0, dnV b r0), (1, .int p1)] := by cases r0 <;> rfl
  refine dn_mt (by decide +kernel) roI (by cases r0 <;> exact (Nat.le_of_ble_eq_true rfl)) ?_
  rw [hlv]
  refine dn_top ?_
  show jX9_gridFault w x b 0 0 0 _ [] (dnB _ dnP)
  unfold fX9_gridFault
  refine dn_iload_n (pc := 0) 1 dX9_gridFault_0 rfl ?_
  refine dn_callSN0Z (pc := 1) [.int p1]  kRX9_47 (mX12_isGrid w x b p1) rfl rfl (Nat.le_of_ble_eq_true rfl) ⟨(Nat.le_of_ble_eq_true rfl), (Nat.le_of_ble_eq_true rfl)⟩ ⟨rfl, rfl, (Nat.le_of_ble_eq_true rfl), (Nat.le_of_ble_eq_true rfl)⟩ dX9_gridFault_1 (fun v1 => ?_)
  refine dn_ifz_ne (pc := 4) 9 dX9_gridFault_4 rfl (fun _ => ?_) (fun _ => ?_)
  · refine dn_aload_n (pc := 9) r0 0 dX9_gridFault_9 rfl ?_
    refine dn_getR (pc := 10) r0 lRX9_9 dX9_gridFault_10 (fun v2 => ?_)
    refine dn_iload_n (pc := 13) 1 dX9_gridFault_13 rfl ?_
    refine dn_iald (pc := 14) v2 dX9_gridFault_14 (fun v3 => ?_)
    refine dn_if_ge (pc := 15) 23 dX9_gridFault_15 rfl (fun _ => ?_) (fun _ => ?_)
    · refine dn_iconst (pc := 23) (v := 0) dX9_gridFault_23 rfl ?_
      exact dn_ret (Nat.le_of_ble_eq_true rfl) (Nat.le_of_ble_eq_true rfl) rfl dX9_gridFault_24
    · refine dn_bipush (pc := 18) (v := -2) dX9_gridFault_18 rfl ?_
      refine dn_goto (pc := 20) 24 dX9_gridFault_20 rfl ?_
      exact dn_ret (Nat.le_of_ble_eq_true rfl) (Nat.le_of_ble_eq_true rfl) rfl dX9_gridFault_24
  · refine dn_iconst (pc := 7) (v := -1) dX9_gridFault_7 rfl ?_
    exact dn_ret (Nat.le_of_ble_eq_true rfl) (Nat.le_of_ble_eq_true rfl) rfl dX9_gridFault_8
abbrev rmX9_placeFault : Room := { frames := 2, cells := 0, slots := 0, locals := 41 }
def fX9_placeFault (r0 : Option Nat) (p1 : Int32) (p2 : Int32) : dnM Int32 :=
  dnB (dnCv r0 7 (fX9_gridFault r0 p1)) fun v1 =>
  if 0 ≤ v1 then
  (dnB (dnCv r0 7 (fX9_hasPlace r0 p1 p2)) fun v2 =>
  if v2 = true then
  (dnP 0)
  else
  (dnP (-3)))
  else
  (dnP v1)
abbrev jX9_placeFault (w : dnWd) (x : dnX) (b : Nat) := dnD w x b (fun _ => True) cX9_placeFault RX9 4 rmX9_placeFault "placeFault" eI
set_option maxHeartbeats 4000000 in
set_option maxRecDepth 100000 in
theorem mX9_placeFault (w : dnWd) (x : dnX) (b : Nat) (r0 : Option Nat) (p1 : Int32) (p2 : Int32) : dnMt w x b yX9_placeFault cX9_placeFault 4 (some .int) rmX9_placeFault eI [dnV b r0, .int p1, .int p2] (fX9_placeFault r0 p1 p2) := by
  have hlv : lv_args 0 [dnV b r0, .int p1, .int p2] = [(0, dnV b r0), (1, .int p1), (2, .int p2)] := by cases r0 <;> rfl
  refine dn_mt (by decide +kernel) roI (by cases r0 <;> exact (Nat.le_of_ble_eq_true rfl)) ?_
  rw [hlv]
  refine dn_top ?_
  show jX9_placeFault w x b 0 0 0 _ [] (dnB _ dnP)
  unfold fX9_placeFault
  refine dn_aload_n (pc := 0) r0 0 dX9_placeFault_0 rfl ?_
  refine dn_iload_n (pc := 1) 1 dX9_placeFault_1 rfl ?_
  refine dn_callV0I (pc := 2) [.int p1] r0 kRX9_51 (mX9_gridFault w x b r0 p1) rfl rfl (Nat.le_of_ble_eq_true rfl) ⟨(Nat.le_of_ble_eq_true rfl), (Nat.le_of_ble_eq_true rfl)⟩ ⟨rfl, rfl, (Nat.le_of_ble_eq_true rfl), (Nat.le_of_ble_eq_true rfl)⟩ dX9_placeFault_2 (fun v1 => ?_)
  refine dn_istore_n (pc := 5) dX9_placeFault_5 (Nat.le_of_ble_eq_true rfl) (dnKp_nb 2 rfl rfl rfl (dnKp_of (lv2 := [(0, dnV b r0), (1, .int p1)]) [0, 1] rfl rfl)) ?_
  refine dn_iload_n (pc := 6) 0 dX9_placeFault_6 rfl ?_
  refine dn_if_ge (pc := 7) 12 dX9_placeFault_7 rfl (fun _ => ?_) (fun _ => ?_)
  · refine dn_aload_n (pc := 12) r0 2 dX9_placeFault_12 rfl ?_
    refine dn_iload_n (pc := 13) 3 dX9_placeFault_13 rfl ?_
    refine dn_iload_n (pc := 14) 1 dX9_placeFault_14 rfl ?_
    refine dn_callV0Z (pc := 15) [.int p1, .int p2] r0 kRX9_43 (mX9_hasPlace w x b r0 p1 p2) rfl rfl (Nat.le_of_ble_eq_true rfl) ⟨(Nat.le_of_ble_eq_true rfl), (Nat.le_of_ble_eq_true rfl)⟩ ⟨rfl, rfl, (Nat.le_of_ble_eq_true rfl), (Nat.le_of_ble_eq_true rfl)⟩ dX9_placeFault_15 (fun v2 => ?_)
    refine dn_ifz_eq (pc := 18) 25 dX9_placeFault_18 rfl (fun _ => ?_) (fun _ => ?_)
    · refine dn_iconst (pc := 21) (v := 0) dX9_placeFault_21 rfl ?_
      refine dn_goto (pc := 22) 27 dX9_placeFault_22 rfl ?_
      exact dn_ret (Nat.le_of_ble_eq_true rfl) (Nat.le_of_ble_eq_true rfl) rfl dX9_placeFault_27
    · refine dn_bipush (pc := 25) (v := -3) dX9_placeFault_25 rfl ?_
      exact dn_ret (Nat.le_of_ble_eq_true rfl) (Nat.le_of_ble_eq_true rfl) rfl dX9_placeFault_27
  · refine dn_iload_n (pc := 10) 0 dX9_placeFault_10 rfl ?_
    exact dn_ret (Nat.le_of_ble_eq_true rfl) (Nat.le_of_ble_eq_true rfl) rfl dX9_placeFault_11
abbrev rmX10_foldCells : Room := { frames := 3, cells := 0, slots := 0, locals := 73 }
def fX10_foldCells_j197 (l0 : Option Nat) (l7 : Int32) (s0 : Option Nat) (s1 : Int64) : dnM Int32 :=
  dnB (dnPL s0 1 0 s1) fun _ =>
  dnB (dnGR l0 8 1) fun v1 =>
  dnB (dnPI v1 1 2 l7) fun _ =>
  dnB (dnGI l0 8 5) fun v2 =>
  dnP v2
def fX10_foldCells_j146 (l0 : Option Nat) (l1 : Int32) (l2 : Int32) (l3 : Int32) (l4 : Int32) (l5 : Int32) (l7 : Int32) (l8 : Int32) (l9 : Int32) (l10 : Int32) : dnM ((Int32 × Int32) ⊕ (Int32)) :=
  dnP (.inl (l7, (l10 + 1)))
def fX10_foldCells_j143 (l0 : Option Nat) (l1 : Int32) (l2 : Int32) (l3 : Int32) (l4 : Int32) (l5 : Int32) (l8 : Int32) (l9 : Int32) (l10 : Int32) (s0 : Int32) (s1 : Bool) : dnM ((Int32 × Int32) ⊕ (Int32)) :=
  fX10_foldCells_j146 l0 l1 l2 l3 l4 l5 (s0 + (dnZ s1)) l8 l9 l10
def fX10_foldCells_b94 (c0 : Option Nat) (c1 : Int32) (c2 : Int32) (c3 : Int32) (c4 : Int32) (c5 : Int32) (c8 : Int32) (c9 : Int32) (s94 : Int32 × Int32) : dnM ((Int32 × Int32) ⊕ (Int32)) :=
  if c9 ≤ s94.2 then
  (dnP (.inr s94.1))
  else
  (dnB (fX10_isChosen c2 c3 c8 s94.2) fun v9 =>
  if v9 = true then
  (dnB (dnGR c0 8 0) fun v10 =>
  dnB (dnCv v10 7 (fX9_rowAt v10 c1 c8)) fun v11 =>
  dnB (dnCv c0 8 (fX10_take c0 v11 s94.2 c4 c5)) fun v12 =>
  if v12 = true then
  (fX10_foldCells_j143 c0 c1 c2 c3 c4 c5 c8 c9 s94.2 s94.1 false)
  else
  (fX10_foldCells_j143 c0 c1 c2 c3 c4 c5 c8 c9 s94.2 s94.1 true))
  else
  (fX10_foldCells_j146 c0 c1 c2 c3 c4 c5 s94.1 c8 c9 s94.2))
def fX10_foldCells_b65 (c0 : Option Nat) (c1 : Int32) (c2 : Int32) (c3 : Int32) (c4 : Int32) (c5 : Int32) (s65 : Int32 × Int32) : dnM ((Int32 × Int32) ⊕ (Int32)) :=
  dnB (dnGR c0 8 0) fun v4 =>
  dnB (dnGR v4 7 0) fun v5 =>
  dnB (dnAI v5 100 c1) fun v6 =>
  if v6 ≤ s65.2 then
  (dnP (.inr s65.1))
  else
  (dnB (dnGR c0 8 0) fun v7 =>
  dnB (dnCv v7 7 (fX9_cellsAt v7 c1 s65.2)) fun v8 =>
  dnB (dnIt 1000 (fX10_foldCells_b94 c0 c1 c2 c3 c4 c5 s65.2 v8) (s65.1, 0)) fun q94 =>
  dnP (.inl (q94, (s65.2 + 1))))
def fX10_foldCells_j45 (l0 : Option Nat) (l1 : Int32) (l2 : Int32) (l3 : Int32) (l4 : Int32) (l5 : Int32) (s0 : Int32) : dnM Int32 :=
  if 0 ≤ s0 then
  (dnB (dnCv l0 8 (fX10_begin l0)) fun _ =>
  dnB (dnIt 1000 (fX10_foldCells_b65 l0 l1 l2 l3 l4 l5) (0, 0)) fun q65 =>
  dnB (dnGR l0 8 1) fun v13 =>
  if ¬ l4 = 4 then
  (if ¬ l5 = 7 then
  (dnB (dnGL l0 8 2) fun v14 =>
  fX10_foldCells_j197 l0 q65 v13 v14)
  else
  (dnB (dnGD l0 8 3) fun v15 =>
  dnB (fX12_codeOfReal v15) fun v16 =>
  fX10_foldCells_j197 l0 q65 v13 v16))
  else
  (dnB (dnGI l0 8 4) fun v17 =>
  fX10_foldCells_j197 l0 q65 v13 ((v17 : Int32).toInt64)))
  else
  (dnP s0)
def fX10_foldCells (r0 : Option Nat) (p1 : Int32) (p2 : Int32) (p3 : Int32) (p4 : Int32) (p5 : Int32) : dnM Int32 :=
  dnB (fX12_isGrid p1) fun v18 =>
  if v18 = true then
  (dnB (fX10_isFoldable p2 p3 p4 p5) fun v19 =>
  if v19 = true then
  (if ¬ p2 = 0 then
  (dnB (dnGR r0 8 0) fun v20 =>
  dnB (dnCv v20 7 (fX9_gridFault v20 p1)) fun v21 =>
  fX10_foldCells_j45 r0 p1 p2 p3 p4 p5 v21)
  else
  (dnB (dnGR r0 8 0) fun v22 =>
  dnB (dnCv v22 7 (fX9_placeFault v22 p1 p3)) fun v23 =>
  fX10_foldCells_j45 r0 p1 p2 p3 p4 p5 v23))
  else
  (dnP (-1)))
  else
  (dnP (-1))
abbrev jX10_foldCells (w : dnWd) (x : dnX) (b : Nat) := dnD w x b (fun _ => True) cX10_foldCells RX10 11 rmX10_foldCells "foldCells" eI
set_option maxHeartbeats 4000000 in
set_option maxRecDepth 100000 in
theorem mX10_foldCells (w : dnWd) (x : dnX) (b : Nat) (r0 : Option Nat) (p1 : Int32) (p2 : Int32) (p3 : Int32) (p4 : Int32) (p5 : Int32) : dnMt w x b yX10_foldCells cX10_foldCells 11 (some .int) rmX10_foldCells eI [dnV b r0, .int p1, .int p2, .int p3, .int p4, .int p5] (fX10_foldCells r0 p1 p2 p3 p4 p5) := by
  have hlv : lv_args 0 [dnV b r0, .int p1, .int p2, .int p3, .int p4, .int p5] = [(0, dnV b r0), (1, .int p1), (2, .int p2), (3, .int p3), (4, .int p4), (5, .int p5)] := by cases r0 <;> rfl
  refine dn_mt (by decide +kernel) roI (by cases r0 <;> exact (Nat.le_of_ble_eq_true rfl)) ?_
  rw [hlv]
  refine dn_top ?_
  show jX10_foldCells w x b 0 0 0 _ [] (dnB _ dnP)
  unfold fX10_foldCells
  have hj197 : ∀ (l0 : Option Nat) (l7 : Int32) (s0 : Option Nat) (s1 : Int64), jX10_foldCells w x b 197 0 0 [(0, dnV b l0), (7, .int l7)] [.long s1, dnV b s0] (dnB (fX10_foldCells_j197 l0 l7 s0 s1) dnP) := by
    intro l0 l7 s0 s1
    unfold fX10_foldCells_j197
    refine dn_putL (pc := 197) s0 lRX10_80 dX10_foldCells_197 ?_
    refine dn_aload_n (pc := 200) l0 0 dX10_foldCells_200 rfl ?_
    refine dn_getR (pc := 201) l0 lRX10_15 dX10_foldCells_201 (fun v1 => ?_)
    refine dn_iload (pc := 204) 1 dX10_foldCells_204 rfl ?_
    refine dn_putI (pc := 206) v1 lRX10_85 dX10_foldCells_206 ?_
    refine dn_aload_n (pc := 209) l0 0 dX10_foldCells_209 rfl ?_
    refine dn_getI (pc := 210) l0 lRX10_35 dX10_foldCells_210 (fun v2 => ?_)
    exact dn_ret (Nat.le_of_ble_eq_true rfl) (Nat.le_of_ble_eq_true rfl) rfl dX10_foldCells_213
  have hj45 : ∀ (l0 : Option Nat) (l1 : Int32) (l2 : Int32) (l3 : Int32) (l4 : Int32) (l5 : Int32) (s0 : Int32), jX10_foldCells w x b 45 0 0 [(0, dnV b l0), (1, .int l1), (2, .int l2), (3, .int l3), (4, .int l4), (5, .int l5)] [.int s0] (dnB (fX10_foldCells_j45 l0 l1 l2 l3 l4 l5 s0) dnP) := by
    intro l0 l1 l2 l3 l4 l5 s0
    unfold fX10_foldCells_j45
    refine dn_istore (pc := 45) dX10_foldCells_45 (Nat.le_of_ble_eq_true rfl) (dnKp_nb 5 rfl rfl rfl (dnKp_of (lv2 := [(0, dnV b l0), (1, .int l1), (2, .int l2), (3, .int l3), (4, .int l4)]) [0, 1, 2, 3, 4] rfl rfl)) ?_
    refine dn_iload (pc := 47) 0 dX10_foldCells_47 rfl ?_
    refine dn_if_ge (pc := 49) 55 dX10_foldCells_49 rfl (fun _ => ?_) (fun _ => ?_)
    · refine dn_aload_n (pc := 55) l0 2 dX10_foldCells_55 rfl ?_
      refine dn_callV0U (pc := 56) [] l0 kRX10_55 (mX10_begin w x b l0) rfl rfl (Nat.le_of_ble_eq_true rfl) ⟨(Nat.le_of_ble_eq_true rfl), (Nat.le_of_ble_eq_true rfl)⟩ ⟨rfl, rfl, (Nat.le_of_ble_eq_true rfl), (Nat.le_of_ble_eq_true rfl)⟩ dX10_foldCells_56 (fun _ => ?_)
      refine dn_iconst (pc := 59) (v := 0) dX10_foldCells_59 rfl ?_
      refine dn_istore (pc := 60) dX10_foldCells_60 (Nat.le_of_ble_eq_true rfl) (dnKp_of (lv2 := [(5, .int l5), (0, dnV b l0), (1, .int l1), (2, .int l2), (3, .int l3), (4, .int l4)]) [1, 2, 3, 4, 5, 6] rfl rfl) ?_
      refine dn_iconst (pc := 62) (v := 0) dX10_foldCells_62 rfl ?_
      refine dn_istore (pc := 63) dX10_foldCells_63 (Nat.le_of_ble_eq_true rfl) (dnKp_nb 0 rfl rfl rfl (dnKp_of (lv2 := [(5, .int l5), (0, dnV b l0), (1, .int l1), (2, .int l2), (3, .int l3), (4, .int l4)]) [1, 2, 3, 4, 5, 6] rfl rfl)) ?_
      refine dn_assoc ?_
      refine dn_lv [3, 4, 5, 6, 7, 2, 1, 0] (lv2 := (fun s => [(0, dnV b l0), (1, .int l1), (2, .int l2), (3, .int l3), (4, .int l4), (5, .int l5), (7, .int s.1), (8, .int s.2)]) (0, 0)) rfl ?_
      refine dn_loopE (pc := 65) (body := fX10_foldCells_b65 l0 l1 l2 l3 l4 l5) 158 (fun s => [(0, dnV b l0), (1, .int l1), (2, .int l2), (3, .int l3), (4, .int l4), (5, .int l5), (7, .int s.1), (8, .int s.2)]) (fun q => [(0, dnV b l0), (4, .int l4), (5, .int l5), (7, .int q)]) (fun s65 K65 E65 hK65 hE65 => ?_) (fun q65 => ?_) 1000 (0, 0)
      · unfold fX10_foldCells_b65
        refine dn_iload (pc := 65) 7 dX10_foldCells_65 rfl ?_
        refine dn_aload_n (pc := 67) l0 0 dX10_foldCells_67 rfl ?_
        refine dn_getR (pc := 68) l0 lRX10_9 dX10_foldCells_68 (fun v4 => ?_)
        refine dn_getR (pc := 71) v4 lRX10_58 dX10_foldCells_71 (fun v5 => ?_)
        refine dn_iload_n (pc := 74) 1 dX10_foldCells_74 rfl ?_
        refine dn_iald (pc := 75) v5 dX10_foldCells_75 (fun v6 => ?_)
        refine dn_icmp_ge (pc := 76) 158 dX10_foldCells_76 rfl (fun _ => ?_) (fun _ => ?_)
        · refine dn_leaf ?_
          exact dn_lv [0, 4, 5, 6] rfl (hE65 s65.1)
        · refine dn_aload_n (pc := 79) l0 0 dX10_foldCells_79 rfl ?_
          refine dn_getR (pc := 80) l0 lRX10_9 dX10_foldCells_80 (fun v7 => ?_)
          refine dn_iload_n (pc := 83) 1 dX10_foldCells_83 rfl ?_
          refine dn_iload (pc := 84) 7 dX10_foldCells_84 rfl ?_
          refine dn_callV0I (pc := 86) [.int l1, .int s65.2] v7 kRX10_62 (mX9_cellsAt w x b v7 l1 s65.2) rfl rfl (Nat.le_of_ble_eq_true rfl) ⟨(Nat.le_of_ble_eq_true rfl), (Nat.le_of_ble_eq_true rfl)⟩ ⟨rfl, rfl, (Nat.le_of_ble_eq_true rfl), (Nat.le_of_ble_eq_true rfl)⟩ dX10_foldCells_86 (fun v8 => ?_)
          refine dn_istore (pc := 89) dX10_foldCells_89 (Nat.le_of_ble_eq_true rfl) (dnKp_nb 7 rfl rfl rfl (dnKp_of (lv2 := [(0, dnV b l0), (1, .int l1), (2, .int l2), (3, .int l3), (4, .int l4), (5, .int l5), (7, .int s65.1)]) [0, 1, 2, 3, 4, 5, 6] rfl rfl)) ?_
          refine dn_iconst (pc := 91) (v := 0) dX10_foldCells_91 rfl ?_
          refine dn_istore (pc := 92) dX10_foldCells_92 (Nat.le_of_ble_eq_true rfl) (dnKp_nb 0 rfl rfl rfl (dnKp_of (lv2 := [(8, .int s65.2), (0, dnV b l0), (1, .int l1), (2, .int l2), (3, .int l3), (4, .int l4), (5, .int l5), (7, .int s65.1)]) [1, 2, 3, 4, 5, 6, 7, 8] rfl rfl)) ?_
          refine dn_assoc ?_
          refine dn_lv [3, 4, 5, 6, 7, 8, 9, 2, 1, 0] (lv2 := (fun s => [(0, dnV b l0), (1, .int l1), (2, .int l2), (3, .int l3), (4, .int l4), (5, .int l5), (7, .int s.1), (8, .int s65.2), (9, .int v8), (10, .int s.2)]) (s65.1, 0)) rfl ?_
          refine dn_loopE (pc := 94) (body := fX10_foldCells_b94 l0 l1 l2 l3 l4 l5 s65.2 v8) 152 (fun s => [(0, dnV b l0), (1, .int l1), (2, .int l2), (3, .int l3), (4, .int l4), (5, .int l5), (7, .int s.1), (8, .int s65.2), (9, .int v8), (10, .int s.2)]) (fun q => [(0, dnV b l0), (1, .int l1), (2, .int l2), (3, .int l3), (4, .int l4), (5, .int l5), (7, .int q), (8, .int s65.2)]) (fun s94 K94 E94 hK94 hE94 => ?_) (fun q94 => ?_) 1000 (s65.1, 0)
          · unfold fX10_foldCells_b94
            have hj146 : ∀ (l7 : Int32) (l10 : Int32), jX10_foldCells w x b 146 0 0 [(0, dnV b l0), (1, .int l1), (2, .int l2), (3, .int l3), (4, .int l4), (5, .int l5), (7, .int l7), (8, .int s65.2), (9, .int v8), (10, .int l10)] [] (dnB (fX10_foldCells_j146 l0 l1 l2 l3 l4 l5 l7 s65.2 v8 l10) (dnKo K94 E94)) := by
              intro l7 l10
              unfold fX10_foldCells_j146
              refine dn_iinc (pc := 146) (l10 + 1) 9 dX10_foldCells_146 rfl rfl (Nat.le_of_ble_eq_true rfl) (dnKp_nb 8 rfl rfl rfl (dnKp_of (lv2 := [(0, dnV b l0), (1, .int l1), (2, .int l2), (3, .int l3), (4, .int l4), (5, .int l5), (7, .int l7), (8, .int s65.2)]) [0, 1, 2, 3, 4, 5, 6, 7] rfl rfl)) ?_
              refine dn_goto (pc := 149) 94 dX10_foldCells_149 rfl ?_
              refine dn_leaf ?_
              exact dn_lv [2, 3, 4, 5, 6, 7, 8, 9, 1, 0] rfl (hK94 (l7, (l10 + 1)))
            have hj143 : ∀ (l10 : Int32) (s0 : Int32) (s1 : Bool), jX10_foldCells w x b 143 0 0 [(0, dnV b l0), (1, .int l1), (2, .int l2), (3, .int l3), (4, .int l4), (5, .int l5), (8, .int s65.2), (9, .int v8), (10, .int l10)] [.int (dnZ s1), .int s0] (dnB (fX10_foldCells_j143 l0 l1 l2 l3 l4 l5 s65.2 v8 l10 s0 s1) (dnKo K94 E94)) := by
              intro l10 s0 s1
              unfold fX10_foldCells_j143
              refine dn_iadd (pc := 143) dX10_foldCells_143 ?_
              refine dn_istore (pc := 144) dX10_foldCells_144 (Nat.le_of_ble_eq_true rfl) (dnKp_of (lv2 := [(0, dnV b l0), (1, .int l1), (2, .int l2), (3, .int l3), (4, .int l4), (5, .int l5), (8, .int s65.2), (9, .int v8), (10, .int l10)]) [0, 1, 2, 3, 4, 5, 6, 7, 8] rfl rfl) ?_
              exact dn_lv [1, 2, 3, 4, 5, 6, 0, 7, 8, 9] rfl (hj146 (s0 + (dnZ s1)) l10)
            refine dn_iload (pc := 94) 9 dX10_foldCells_94 rfl ?_
            refine dn_iload (pc := 96) 8 dX10_foldCells_96 rfl ?_
            refine dn_icmp_ge (pc := 98) 152 dX10_foldCells_98 rfl (fun _ => ?_) (fun _ => ?_)
            · refine dn_leaf ?_
              exact dn_lv [0, 1, 2, 3, 4, 5, 6, 7] rfl (hE94 s94.1)
            · refine dn_iload_n (pc := 101) 2 dX10_foldCells_101 rfl ?_
              refine dn_iload_n (pc := 102) 3 dX10_foldCells_102 rfl ?_
              refine dn_iload (pc := 103) 7 dX10_foldCells_103 rfl ?_
              refine dn_iload (pc := 105) 9 dX10_foldCells_105 rfl ?_
              refine dn_callS0Z (pc := 107) [.int l2, .int l3, .int s65.2, .int s94.2]  kRX10_65 (mX10_isChosen w x b l2 l3 s65.2 s94.2) rfl rfl (Nat.le_of_ble_eq_true rfl) ⟨(Nat.le_of_ble_eq_true rfl), (Nat.le_of_ble_eq_true rfl)⟩ ⟨rfl, rfl, (Nat.le_of_ble_eq_true rfl), (Nat.le_of_ble_eq_true rfl)⟩ dX10_foldCells_107 (fun v9 => ?_)
              refine dn_ifz_eq (pc := 110) 146 dX10_foldCells_110 rfl (fun _ => ?_) (fun _ => ?_)
              · refine dn_iload (pc := 113) 6 dX10_foldCells_113 rfl ?_
                refine dn_aload_n (pc := 115) l0 0 dX10_foldCells_115 rfl ?_
                refine dn_aload_n (pc := 116) l0 0 dX10_foldCells_116 rfl ?_
                refine dn_getR (pc := 117) l0 lRX10_9 dX10_foldCells_117 (fun v10 => ?_)
                refine dn_iload_n (pc := 120) 1 dX10_foldCells_120 rfl ?_
                refine dn_iload (pc := 121) 7 dX10_foldCells_121 rfl ?_
                refine dn_callV0R (pc := 123) [.int l1, .int s65.2] v10 kRX10_68 (mX9_rowAt w x b v10 l1 s65.2) rfl rfl (Nat.le_of_ble_eq_true rfl) ⟨(Nat.le_of_ble_eq_true rfl), (Nat.le_of_ble_eq_true rfl)⟩ ⟨rfl, rfl, (Nat.le_of_ble_eq_true rfl), (Nat.le_of_ble_eq_true rfl)⟩ dX10_foldCells_123 (fun v11 => ?_)
                refine dn_iload (pc := 126) 9 dX10_foldCells_126 rfl ?_
                refine dn_iload (pc := 128) 4 dX10_foldCells_128 rfl ?_
                refine dn_iload (pc := 130) 5 dX10_foldCells_130 rfl ?_
                refine dn_callV0Z (pc := 132) [dnV b v11, .int s94.2, .int l4, .int l5] l0 kRX10_72 (mX10_take w x b l0 v11 s94.2 l4 l5) rfl rfl (Nat.le_of_ble_eq_true rfl) ⟨(Nat.le_of_ble_eq_true rfl), (Nat.le_of_ble_eq_true rfl)⟩ ⟨rfl, rfl, (Nat.le_of_ble_eq_true rfl), (Nat.le_of_ble_eq_true rfl)⟩ dX10_foldCells_132 (fun v12 => ?_)
                refine dn_ifz_eq (pc := 135) 142 dX10_foldCells_135 rfl (fun _ => ?_) (fun _ => ?_)
                · refine dn_iconst (pc := 138) (v := 0) dX10_foldCells_138 rfl ?_
                  refine dn_goto (pc := 139) 143 dX10_foldCells_139 rfl ?_
                  exact dn_lv [0, 1, 2, 3, 4, 5, 7, 8, 9] rfl (hj143 s94.2 s94.1 false)
                · refine dn_iconst (pc := 142) (v := 1) dX10_foldCells_142 rfl ?_
                  exact dn_lv [0, 1, 2, 3, 4, 5, 7, 8, 9] rfl (hj143 s94.2 s94.1 true)
              · exact dn_lv [0, 1, 2, 3, 4, 5, 6, 7, 8, 9] rfl (hj146 s94.1 s94.2)
          · refine dn_iinc (pc := 152) (s65.2 + 1) 7 dX10_foldCells_152 rfl rfl (Nat.le_of_ble_eq_true rfl) (dnKp_nb 6 rfl rfl rfl (dnKp_of (lv2 := [(0, dnV b l0), (1, .int l1), (2, .int l2), (3, .int l3), (4, .int l4), (5, .int l5)]) [0, 1, 2, 3, 4, 5] rfl rfl)) ?_
            refine dn_goto (pc := 155) 65 dX10_foldCells_155 rfl ?_
            refine dn_leaf ?_
            exact dn_lv [2, 3, 4, 5, 6, 7, 1, 0] rfl (hK65 (q94, (s65.2 + 1)))
      · refine dn_aload_n (pc := 158) l0 0 dX10_foldCells_158 rfl ?_
        refine dn_getR (pc := 159) l0 lRX10_15 dX10_foldCells_159 (fun v13 => ?_)
        refine dn_iload (pc := 162) 1 dX10_foldCells_162 rfl ?_
        refine dn_iconst (pc := 164) (v := 4) dX10_foldCells_164 rfl ?_
        refine dn_icmp_ne (pc := 165) 176 dX10_foldCells_165 rfl (fun _ => ?_) (fun _ => ?_)
        · refine dn_iload (pc := 176) 2 dX10_foldCells_176 rfl ?_
          refine dn_bipush (pc := 178) (v := 7) dX10_foldCells_178 rfl ?_
          refine dn_icmp_ne (pc := 180) 193 dX10_foldCells_180 rfl (fun _ => ?_) (fun _ => ?_)
          · refine dn_aload_n (pc := 193) l0 0 dX10_foldCells_193 rfl ?_
            refine dn_getL (pc := 194) l0 lRX10_23 dX10_foldCells_194 (fun v14 => ?_)
            exact dn_lv [0, 3] rfl (hj197 l0 q65 v13 v14)
          · refine dn_aload_n (pc := 183) l0 0 dX10_foldCells_183 rfl ?_
            refine dn_getD (pc := 184) l0 lRX10_27 dX10_foldCells_184 (fun v15 => ?_)
            refine dn_callSN0L (pc := 187) [.double v15]  kRX10_76 (mX12_codeOfReal w x b v15) rfl rfl (Nat.le_of_ble_eq_true rfl) ⟨(Nat.le_of_ble_eq_true rfl), (Nat.le_of_ble_eq_true rfl)⟩ ⟨rfl, rfl, (Nat.le_of_ble_eq_true rfl), (Nat.le_of_ble_eq_true rfl)⟩ dX10_foldCells_187 (fun v16 => ?_)
            refine dn_goto (pc := 190) 197 dX10_foldCells_190 rfl ?_
            exact dn_lv [0, 3] rfl (hj197 l0 q65 v13 v16)
        · refine dn_aload_n (pc := 168) l0 0 dX10_foldCells_168 rfl ?_
          refine dn_getI (pc := 169) l0 lRX10_31 dX10_foldCells_169 (fun v17 => ?_)
          refine dn_i2l (pc := 172) dX10_foldCells_172 ?_
          refine dn_goto (pc := 173) 197 dX10_foldCells_173 rfl ?_
          exact dn_lv [0, 3] rfl (hj197 l0 q65 v13 ((v17 : Int32).toInt64))
    · refine dn_iload (pc := 52) 0 dX10_foldCells_52 rfl ?_
      exact dn_ret (Nat.le_of_ble_eq_true rfl) (Nat.le_of_ble_eq_true rfl) rfl dX10_foldCells_54
  refine dn_iload_n (pc := 0) 1 dX10_foldCells_0 rfl ?_
  refine dn_callSN0Z (pc := 1) [.int p1]  kRX10_38 (mX12_isGrid w x b p1) rfl rfl (Nat.le_of_ble_eq_true rfl) ⟨(Nat.le_of_ble_eq_true rfl), (Nat.le_of_ble_eq_true rfl)⟩ ⟨rfl, rfl, (Nat.le_of_ble_eq_true rfl), (Nat.le_of_ble_eq_true rfl)⟩ dX10_foldCells_1 (fun v18 => ?_)
  refine dn_ifz_eq (pc := 4) 19 dX10_foldCells_4 rfl (fun _ => ?_) (fun _ => ?_)
  · refine dn_iload_n (pc := 7) 2 dX10_foldCells_7 rfl ?_
    refine dn_iload_n (pc := 8) 3 dX10_foldCells_8 rfl ?_
    refine dn_iload (pc := 9) 4 dX10_foldCells_9 rfl ?_
    refine dn_iload (pc := 11) 5 dX10_foldCells_11 rfl ?_
    refine dn_callS0Z (pc := 13) [.int p2, .int p3, .int p4, .int p5]  kRX10_41 (mX10_isFoldable w x b p2 p3 p4 p5) rfl rfl (Nat.le_of_ble_eq_true rfl) ⟨(Nat.le_of_ble_eq_true rfl), (Nat.le_of_ble_eq_true rfl)⟩ ⟨rfl, rfl, (Nat.le_of_ble_eq_true rfl), (Nat.le_of_ble_eq_true rfl)⟩ dX10_foldCells_13 (fun v19 => ?_)
    refine dn_ifz_ne (pc := 16) 21 dX10_foldCells_16 rfl (fun _ => ?_) (fun _ => ?_)
    · refine dn_iload_n (pc := 21) 2 dX10_foldCells_21 rfl ?_
      refine dn_if_ne (pc := 22) 37 dX10_foldCells_22 rfl (fun _ => ?_) (fun _ => ?_)
      · refine dn_aload_n (pc := 37) r0 0 dX10_foldCells_37 rfl ?_
        refine dn_getR (pc := 38) r0 lRX10_9 dX10_foldCells_38 (fun v20 => ?_)
        refine dn_iload_n (pc := 41) 1 dX10_foldCells_41 rfl ?_
        refine dn_callV0I (pc := 42) [.int p1] v20 kRX10_51 (mX9_gridFault w x b v20 p1) rfl rfl (Nat.le_of_ble_eq_true rfl) ⟨(Nat.le_of_ble_eq_true rfl), (Nat.le_of_ble_eq_true rfl)⟩ ⟨rfl, rfl, (Nat.le_of_ble_eq_true rfl), (Nat.le_of_ble_eq_true rfl)⟩ dX10_foldCells_42 (fun v21 => ?_)
        exact dn_lv [0, 1, 2, 3, 4, 5] rfl (hj45 r0 p1 p2 p3 p4 p5 v21)
      · refine dn_aload_n (pc := 25) r0 0 dX10_foldCells_25 rfl ?_
        refine dn_getR (pc := 26) r0 lRX10_9 dX10_foldCells_26 (fun v22 => ?_)
        refine dn_iload_n (pc := 29) 1 dX10_foldCells_29 rfl ?_
        refine dn_iload_n (pc := 30) 3 dX10_foldCells_30 rfl ?_
        refine dn_callV0I (pc := 31) [.int p1, .int p3] v22 kRX10_45 (mX9_placeFault w x b v22 p1 p3) rfl rfl (Nat.le_of_ble_eq_true rfl) ⟨(Nat.le_of_ble_eq_true rfl), (Nat.le_of_ble_eq_true rfl)⟩ ⟨rfl, rfl, (Nat.le_of_ble_eq_true rfl), (Nat.le_of_ble_eq_true rfl)⟩ dX10_foldCells_31 (fun v23 => ?_)
        refine dn_goto (pc := 34) 45 dX10_foldCells_34 rfl ?_
        exact dn_lv [0, 1, 2, 3, 4, 5] rfl (hj45 r0 p1 p2 p3 p4 p5 v23)
    · refine dn_iconst (pc := 19) (v := -1) dX10_foldCells_19 rfl ?_
      exact dn_ret (Nat.le_of_ble_eq_true rfl) (Nat.le_of_ble_eq_true rfl) rfl dX10_foldCells_20
  · refine dn_iconst (pc := 19) (v := -1) dX10_foldCells_19 rfl ?_
    exact dn_ret (Nat.le_of_ble_eq_true rfl) (Nat.le_of_ble_eq_true rfl) rfl dX10_foldCells_20
abbrev rmX10_init : Room := { frames := 1, cells := 0, slots := 0, locals := 20 }
def fX10_init (r0 : Option Nat) (r1 : Option Nat) (r2 : Option Nat) : dnM Unit :=
  dnB (dnCk r0 8) fun _ =>
  dnB (dnPR r0 8 0 r1) fun _ =>
  dnB (dnPR r0 8 1 r2) fun _ =>
  dnP ()
abbrev jX10_init (w : dnWd) (x : dnX) (b : Nat) := dnD w x b (fun _ => True) cX10_init RX10 3 rmX10_init "<init>" eU
set_option maxHeartbeats 4000000 in
set_option maxRecDepth 100000 in
theorem mX10_init (w : dnWd) (x : dnX) (b : Nat) (r0 : Option Nat) (r1 : Option Nat) (r2 : Option Nat) : dnMt w x b yX10_init cX10_init 3 none rmX10_init eU [dnV b r0, dnV b r1, dnV b r2] (fX10_init r0 r1 r2) := by
  have hlv : lv_args 0 [dnV b r0, dnV b r1, dnV b r2] = [(0, dnV b r0), (1, dnV b r1), (2, dnV b r2)] := by cases r0 <;> cases r1 <;> cases r2 <;> rfl
  refine dn_mt (by decide +kernel) roU (by cases r0 <;> cases r1 <;> cases r2 <;> exact (Nat.le_of_ble_eq_true rfl)) ?_
  rw [hlv]
  refine dn_top ?_
  show jX10_init w x b 0 0 0 _ [] (dnB _ dnP)
  unfold fX10_init
  refine dn_aload_n (pc := 0) r0 0 dX10_init_0 rfl ?_
  refine dn_objInitC (pc := 1) r0 kRX10_3 ko_1 ko_2 dX10_init_1 ⟨(Nat.le_of_ble_eq_true rfl), (Nat.le_of_ble_eq_true rfl)⟩ (Nat.le_of_ble_eq_true rfl) ?_
  refine dn_aload_n (pc := 4) r0 0 dX10_init_4 rfl ?_
  refine dn_aload_n (pc := 5) r1 1 dX10_init_5 rfl ?_
  refine dn_putRF (pc := 6) r0 lRX10_9 rfl rfl dX10_init_6 ?_
  refine dn_aload_n (pc := 9) r0 0 dX10_init_9 rfl ?_
  refine dn_aload_n (pc := 10) r2 2 dX10_init_10 rfl ?_
  refine dn_putRF (pc := 11) r0 lRX10_15 rfl rfl dX10_init_11 ?_
  exact dn_ret (Nat.le_of_ble_eq_true rfl) (Nat.le_of_ble_eq_true rfl) rfl dX10_init_14
abbrev rmX9_rowFault : Room := { frames := 3, cells := 0, slots := 0, locals := 64 }
def fX9_rowFault (r0 : Option Nat) (p1 : Int32) (p2 : Int32) : dnM Int32 :=
  dnB (dnCv r0 7 (fX9_placeFault r0 p1 p2)) fun v1 =>
  if 0 ≤ v1 then
  (dnB (dnGR r0 7 1) fun v2 =>
  dnB (dnAI v2 100 ((p1 * 6) + p2)) fun v3 =>
  if ¬ v3 = (-14) then
  (dnP (-5))
  else
  (dnP (-4)))
  else
  (dnP v1)
abbrev jX9_rowFault (w : dnWd) (x : dnX) (b : Nat) := dnD w x b (fun _ => True) cX9_rowFault RX9 4 rmX9_rowFault "rowFault" eI
set_option maxHeartbeats 4000000 in
set_option maxRecDepth 100000 in
theorem mX9_rowFault (w : dnWd) (x : dnX) (b : Nat) (r0 : Option Nat) (p1 : Int32) (p2 : Int32) : dnMt w x b yX9_rowFault cX9_rowFault 4 (some .int) rmX9_rowFault eI [dnV b r0, .int p1, .int p2] (fX9_rowFault r0 p1 p2) := by
  have hlv : lv_args 0 [dnV b r0, .int p1, .int p2] = [(0, dnV b r0), (1, .int p1), (2, .int p2)] := by cases r0 <;> rfl
  refine dn_mt (by decide +kernel) roI (by cases r0 <;> exact (Nat.le_of_ble_eq_true rfl)) ?_
  rw [hlv]
  refine dn_top ?_
  show jX9_rowFault w x b 0 0 0 _ [] (dnB _ dnP)
  unfold fX9_rowFault
  refine dn_aload_n (pc := 0) r0 0 dX9_rowFault_0 rfl ?_
  refine dn_iload_n (pc := 1) 1 dX9_rowFault_1 rfl ?_
  refine dn_iload_n (pc := 2) 2 dX9_rowFault_2 rfl ?_
  refine dn_callV0I (pc := 3) [.int p1, .int p2] r0 kRX9_55 (mX9_placeFault w x b r0 p1 p2) rfl rfl (Nat.le_of_ble_eq_true rfl) ⟨(Nat.le_of_ble_eq_true rfl), (Nat.le_of_ble_eq_true rfl)⟩ ⟨rfl, rfl, (Nat.le_of_ble_eq_true rfl), (Nat.le_of_ble_eq_true rfl)⟩ dX9_rowFault_3 (fun v1 => ?_)
  refine dn_istore_n (pc := 6) dX9_rowFault_6 (Nat.le_of_ble_eq_true rfl) (dnKp_nb 2 rfl rfl rfl (dnKp_of (lv2 := [(0, dnV b r0), (1, .int p1)]) [0, 1] rfl rfl)) ?_
  refine dn_iload_n (pc := 7) 0 dX9_rowFault_7 rfl ?_
  refine dn_if_ge (pc := 8) 13 dX9_rowFault_8 rfl (fun _ => ?_) (fun _ => ?_)
  · refine dn_aload_n (pc := 13) r0 2 dX9_rowFault_13 rfl ?_
    refine dn_getR (pc := 14) r0 lRX9_15 dX9_rowFault_14 (fun v2 => ?_)
    refine dn_iload_n (pc := 17) 3 dX9_rowFault_17 rfl ?_
    refine dn_bipush (pc := 18) (v := 6) dX9_rowFault_18 rfl ?_
    refine dn_imul (pc := 20) dX9_rowFault_20 ?_
    refine dn_iload_n (pc := 21) 1 dX9_rowFault_21 rfl ?_
    refine dn_iadd (pc := 22) dX9_rowFault_22 ?_
    refine dn_iald (pc := 23) v2 dX9_rowFault_23 (fun v3 => ?_)
    refine dn_bipush (pc := 24) (v := -14) dX9_rowFault_24 rfl ?_
    refine dn_icmp_ne (pc := 26) 34 dX9_rowFault_26 rfl (fun _ => ?_) (fun _ => ?_)
    · refine dn_bipush (pc := 34) (v := -5) dX9_rowFault_34 rfl ?_
      exact dn_ret (Nat.le_of_ble_eq_true rfl) (Nat.le_of_ble_eq_true rfl) rfl dX9_rowFault_36
    · refine dn_bipush (pc := 29) (v := -4) dX9_rowFault_29 rfl ?_
      refine dn_goto (pc := 31) 36 dX9_rowFault_31 rfl ?_
      exact dn_ret (Nat.le_of_ble_eq_true rfl) (Nat.le_of_ble_eq_true rfl) rfl dX9_rowFault_36
  · refine dn_iload_n (pc := 11) 0 dX9_rowFault_11 rfl ?_
    exact dn_ret (Nat.le_of_ble_eq_true rfl) (Nat.le_of_ble_eq_true rfl) rfl dX9_rowFault_12
abbrev rmX10_sumProducts : Room := { frames := 4, cells := 0, slots := 0, locals := 87 }
def fX10_sumProducts_j237 (l8 : Int32) (s0 : Option Nat) (s1 : Int64) : dnM Int32 :=
  dnB (dnPL s0 1 0 s1) fun _ =>
  dnP l8
def fX10_sumProducts_j206 (l0 : Option Nat) (l5 : Int32) (l6 : Option Nat) (l7 : Option Nat) (l8 : Int32) (l9 : Int32) : dnM ((Int32) ⊕ (Unit)) :=
  dnP (.inl (l9 + 1))
def fX10_sumProducts_b134 (c0 : Option Nat) (c5 : Int32) (c6 : Option Nat) (c7 : Option Nat) (c8 : Int32) (s134 : Int32) : dnM ((Int32) ⊕ (Unit)) :=
  if c8 ≤ s134 then
  (dnP (.inr ()))
  else
  (if ¬ c5 = 7 then
  (dnB (dnGL c0 8 2) fun v2 =>
  dnB (dnGR c6 4 4) fun v3 =>
  dnB (dnAL v3 102 s134) fun v4 =>
  dnB (dnGR c7 4 4) fun v5 =>
  dnB (dnAL v5 102 s134) fun v6 =>
  dnB (fX12_narrowed c5 (v2 + (v4 * v6))) fun v7 =>
  dnB (dnPL c0 8 2 v7) fun _ =>
  fX10_sumProducts_j206 c0 c5 c6 c7 c8 s134)
  else
  (dnB (dnGD c0 8 3) fun v8 =>
  dnB (dnCv c6 4 (fX5_doubleAt c6 s134)) fun v9 =>
  dnB (dnCv c7 4 (fX5_doubleAt c7 s134)) fun v10 =>
  dnB (dnN64 (FP.dmul v9 v10)) fun v11 =>
  dnB (dnN64 (FP.dadd v8 v11)) fun v12 =>
  dnB (dnPD c0 8 3 v12) fun _ =>
  fX10_sumProducts_j206 c0 c5 c6 c7 c8 s134))
def fX10_sumProducts_j127 (l0 : Option Nat) (l5 : Int32) (l6 : Option Nat) (l7 : Option Nat) (l8 : Int32) : dnM Int32 :=
  dnB (dnCv l0 8 (fX10_begin l0)) fun _ =>
  dnB (dnIt 1000 (fX10_sumProducts_b134 l0 l5 l6 l7 l8) 0) fun q134 =>
  dnB (dnGR l0 8 1) fun v13 =>
  if ¬ l5 = 7 then
  (dnB (dnGL l0 8 2) fun v14 =>
  fX10_sumProducts_j237 l8 v13 v14)
  else
  (dnB (dnGD l0 8 3) fun v15 =>
  dnB (fX12_codeOfReal v15) fun v16 =>
  fX10_sumProducts_j237 l8 v13 v16)
def fX10_sumProducts (r0 : Option Nat) (p1 : Int32) (p2 : Int32) (p3 : Int32) (p4 : Int32) (p5 : Int32) : dnM Int32 :=
  dnB (fX12_isGrid p1) fun v17 =>
  if v17 = true then
  (dnB (fX12_isGrid p3) fun v18 =>
  if v18 = true then
  (dnB (fX10_isSummed p5) fun v19 =>
  if v19 = true then
  (dnB (dnGR r0 8 0) fun v20 =>
  dnB (dnCv v20 7 (fX9_rowAt v20 p1 p2)) fun v21 =>
  v21.elim
  (dnB (dnGR r0 8 0) fun v23 =>
  dnB (dnCv v23 7 (fX9_rowFault v23 p1 p2)) fun v24 =>
  dnP v24)
  (fun v22 => dnB (dnGR r0 8 0) fun v25 =>
  dnB (dnCv v25 7 (fX9_rowAt v25 p3 p4)) fun v26 =>
  v26.elim
  (dnB (dnGR r0 8 0) fun v28 =>
  dnB (dnCv v28 7 (fX9_rowFault v28 p3 p4)) fun v29 =>
  dnP v29)
  (fun v27 => dnB (dnGI (some v22) 4 2) fun v30 =>
  dnB (dnGI (some v27) 4 2) fun v31 =>
  dnB (fJ9_min_7cf53 v30 v31) fun v32 =>
  if v32 ≤ 0 then
  (fX10_sumProducts_j127 r0 p5 (some v22) (some v27) v32)
  else
  (dnB (dnGI (some v22) 4 1) fun v33 =>
  dnB (fX12_readsAs v33 p5) fun v34 =>
  if v34 = true then
  (dnB (dnGI (some v27) 4 1) fun v35 =>
  dnB (fX12_readsAs v35 p5) fun v36 =>
  if v36 = true then
  (fX10_sumProducts_j127 r0 p5 (some v22) (some v27) v32)
  else
  (dnP (-7)))
  else
  (dnP (-7))))))
  else
  (dnP (-1)))
  else
  (dnP (-1)))
  else
  (dnP (-1))
abbrev jX10_sumProducts (w : dnWd) (x : dnX) (b : Nat) := dnD w x b (fun _ => True) cX10_sumProducts RX10 10 rmX10_sumProducts "sumProducts" eI
set_option maxHeartbeats 4000000 in
set_option maxRecDepth 100000 in
theorem mX10_sumProducts (w : dnWd) (x : dnX) (b : Nat) (r0 : Option Nat) (p1 : Int32) (p2 : Int32) (p3 : Int32) (p4 : Int32) (p5 : Int32) : dnMt w x b yX10_sumProducts cX10_sumProducts 10 (some .int) rmX10_sumProducts eI [dnV b r0, .int p1, .int p2, .int p3, .int p4, .int p5] (fX10_sumProducts r0 p1 p2 p3 p4 p5) := by
  have hlv : lv_args 0 [dnV b r0, .int p1, .int p2, .int p3, .int p4, .int p5] = [(0, dnV b r0), (1, .int p1), (2, .int p2), (3, .int p3), (4, .int p4), (5, .int p5)] := by cases r0 <;> rfl
  refine dn_mt (by decide +kernel) roI (by cases r0 <;> exact (Nat.le_of_ble_eq_true rfl)) ?_
  rw [hlv]
  refine dn_top ?_
  show jX10_sumProducts w x b 0 0 0 _ [] (dnB _ dnP)
  unfold fX10_sumProducts
  have hj237 : ∀ (l8 : Int32) (s0 : Option Nat) (s1 : Int64), jX10_sumProducts w x b 237 0 0 [(8, .int l8)] [.long s1, dnV b s0] (dnB (fX10_sumProducts_j237 l8 s0 s1) dnP) := by
    intro l8 s0 s1
    unfold fX10_sumProducts_j237
    refine dn_putL (pc := 237) s0 lRX10_80 dX10_sumProducts_237 ?_
    refine dn_iload (pc := 240) 0 dX10_sumProducts_240 rfl ?_
    exact dn_ret (Nat.le_of_ble_eq_true rfl) (Nat.le_of_ble_eq_true rfl) rfl dX10_sumProducts_242
  have hj127 : ∀ (l0 : Option Nat) (l5 : Int32) (l6 : Option Nat) (l7 : Option Nat) (l8 : Int32), jX10_sumProducts w x b 127 0 0 [(0, dnV b l0), (5, .int l5), (6, dnV b l6), (7, dnV b l7), (8, .int l8)] [] (dnB (fX10_sumProducts_j127 l0 l5 l6 l7 l8) dnP) := by
    intro l0 l5 l6 l7 l8
    unfold fX10_sumProducts_j127
    refine dn_aload_n (pc := 127) l0 0 dX10_sumProducts_127 rfl ?_
    refine dn_callV0U (pc := 128) [] l0 kRX10_55 (mX10_begin w x b l0) rfl rfl (Nat.le_of_ble_eq_true rfl) ⟨(Nat.le_of_ble_eq_true rfl), (Nat.le_of_ble_eq_true rfl)⟩ ⟨rfl, rfl, (Nat.le_of_ble_eq_true rfl), (Nat.le_of_ble_eq_true rfl)⟩ dX10_sumProducts_128 (fun _ => ?_)
    refine dn_iconst (pc := 131) (v := 0) dX10_sumProducts_131 rfl ?_
    refine dn_istore (pc := 132) dX10_sumProducts_132 (Nat.le_of_ble_eq_true rfl) (dnKp_nb 4 rfl rfl rfl (dnKp_of (lv2 := [(0, dnV b l0), (5, .int l5), (6, dnV b l6), (7, dnV b l7)]) [0, 1, 2, 3] rfl rfl)) ?_
    refine dn_assoc ?_
    refine dn_lv [2, 3, 4, 5, 1, 0] (lv2 := (fun s => [(0, dnV b l0), (5, .int l5), (6, dnV b l6), (7, dnV b l7), (8, .int l8), (9, .int s)]) 0) rfl ?_
    refine dn_loopE (pc := 134) (body := fX10_sumProducts_b134 l0 l5 l6 l7 l8) 212 (fun s => [(0, dnV b l0), (5, .int l5), (6, dnV b l6), (7, dnV b l7), (8, .int l8), (9, .int s)]) (fun q => [(0, dnV b l0), (5, .int l5), (8, .int l8)]) (fun s134 K134 E134 hK134 hE134 => ?_) (fun q134 => ?_) 1000 0
    · unfold fX10_sumProducts_b134
      have hj206 : ∀ (l9 : Int32), jX10_sumProducts w x b 206 0 0 [(0, dnV b l0), (5, .int l5), (6, dnV b l6), (7, dnV b l7), (8, .int l8), (9, .int l9)] [] (dnB (fX10_sumProducts_j206 l0 l5 l6 l7 l8 l9) (dnKo K134 E134)) := by
        intro l9
        unfold fX10_sumProducts_j206
        refine dn_iinc (pc := 206) (l9 + 1) 5 dX10_sumProducts_206 rfl rfl (Nat.le_of_ble_eq_true rfl) (dnKp_nb 4 rfl rfl rfl (dnKp_of (lv2 := [(0, dnV b l0), (5, .int l5), (6, dnV b l6), (7, dnV b l7)]) [0, 1, 2, 3] rfl rfl)) ?_
        refine dn_goto (pc := 209) 134 dX10_sumProducts_209 rfl ?_
        refine dn_leaf ?_
        exact dn_lv [2, 3, 4, 5, 1, 0] rfl (hK134 (l9 + 1))
      refine dn_iload (pc := 134) 5 dX10_sumProducts_134 rfl ?_
      refine dn_iload (pc := 136) 4 dX10_sumProducts_136 rfl ?_
      refine dn_icmp_ge (pc := 138) 212 dX10_sumProducts_138 rfl (fun _ => ?_) (fun _ => ?_)
      · refine dn_leaf ?_
        exact dn_lv [0, 1, 4] rfl (hE134 ())
      · refine dn_iload (pc := 141) 1 dX10_sumProducts_141 rfl ?_
        refine dn_bipush (pc := 143) (v := 7) dX10_sumProducts_143 rfl ?_
        refine dn_icmp_ne (pc := 145) 175 dX10_sumProducts_145 rfl (fun _ => ?_) (fun _ => ?_)
        · refine dn_aload_n (pc := 175) l0 0 dX10_sumProducts_175 rfl ?_
          refine dn_iload (pc := 176) 1 dX10_sumProducts_176 rfl ?_
          refine dn_aload_n (pc := 178) l0 0 dX10_sumProducts_178 rfl ?_
          refine dn_getL (pc := 179) l0 lRX10_23 dX10_sumProducts_179 (fun v2 => ?_)
          refine dn_aload (pc := 182) l6 2 dX10_sumProducts_182 rfl ?_
          refine dn_getR (pc := 184) l6 lRX10_105 dX10_sumProducts_184 (fun v3 => ?_)
          refine dn_iload (pc := 187) 5 dX10_sumProducts_187 rfl ?_
          refine dn_lald (pc := 189) v3 dX10_sumProducts_189 (fun v4 => ?_)
          refine dn_aload (pc := 190) l7 3 dX10_sumProducts_190 rfl ?_
          refine dn_getR (pc := 192) l7 lRX10_105 dX10_sumProducts_192 (fun v5 => ?_)
          refine dn_iload (pc := 195) 5 dX10_sumProducts_195 rfl ?_
          refine dn_lald (pc := 197) v5 dX10_sumProducts_197 (fun v6 => ?_)
          refine dn_lmul (pc := 198) dX10_sumProducts_198 ?_
          refine dn_ladd (pc := 199) dX10_sumProducts_199 ?_
          refine dn_callSN0L (pc := 200) [.int l5, .long (v2 + (v4 * v6))]  kRX10_112 (mX12_narrowed w x b l5 (v2 + (v4 * v6))) rfl rfl (Nat.le_of_ble_eq_true rfl) ⟨(Nat.le_of_ble_eq_true rfl), (Nat.le_of_ble_eq_true rfl)⟩ ⟨rfl, rfl, (Nat.le_of_ble_eq_true rfl), (Nat.le_of_ble_eq_true rfl)⟩ dX10_sumProducts_200 (fun v7 => ?_)
          refine dn_putL (pc := 203) l0 lRX10_23 dX10_sumProducts_203 ?_
          exact dn_lv [0, 1, 2, 3, 4, 5] rfl (hj206 s134)
        · refine dn_aload_n (pc := 148) l0 0 dX10_sumProducts_148 rfl ?_
          refine dn_dup (pc := 149) dX10_sumProducts_149 (dn_cat b _) ?_
          refine dn_getD (pc := 150) l0 lRX10_27 dX10_sumProducts_150 (fun v8 => ?_)
          refine dn_aload (pc := 153) l6 2 dX10_sumProducts_153 rfl ?_
          refine dn_iload (pc := 155) 5 dX10_sumProducts_155 rfl ?_
          refine dn_callV0D (pc := 157) [.int s134] l6 kRX10_97 (mX5_doubleAt w x b l6 s134) rfl rfl (Nat.le_of_ble_eq_true rfl) ⟨(Nat.le_of_ble_eq_true rfl), (Nat.le_of_ble_eq_true rfl)⟩ ⟨rfl, rfl, (Nat.le_of_ble_eq_true rfl), (Nat.le_of_ble_eq_true rfl)⟩ dX10_sumProducts_157 (fun v9 => ?_)
          refine dn_aload (pc := 160) l7 3 dX10_sumProducts_160 rfl ?_
          refine dn_iload (pc := 162) 5 dX10_sumProducts_162 rfl ?_
          refine dn_callV0D (pc := 164) [.int s134] l7 kRX10_97 (mX5_doubleAt w x b l7 s134) rfl rfl (Nat.le_of_ble_eq_true rfl) ⟨(Nat.le_of_ble_eq_true rfl), (Nat.le_of_ble_eq_true rfl)⟩ ⟨rfl, rfl, (Nat.le_of_ble_eq_true rfl), (Nat.le_of_ble_eq_true rfl)⟩ dX10_sumProducts_164 (fun v10 => ?_)
          refine dn_dmul (pc := 167) dX10_sumProducts_167 (fun v11 => ?_)
          refine dn_dadd (pc := 168) dX10_sumProducts_168 (fun v12 => ?_)
          refine dn_putD (pc := 169) l0 lRX10_27 dX10_sumProducts_169 ?_
          refine dn_goto (pc := 172) 206 dX10_sumProducts_172 rfl ?_
          exact dn_lv [0, 1, 2, 3, 4, 5] rfl (hj206 s134)
    · refine dn_aload_n (pc := 212) l0 0 dX10_sumProducts_212 rfl ?_
      refine dn_getR (pc := 213) l0 lRX10_15 dX10_sumProducts_213 (fun v13 => ?_)
      refine dn_iload (pc := 216) 1 dX10_sumProducts_216 rfl ?_
      refine dn_bipush (pc := 218) (v := 7) dX10_sumProducts_218 rfl ?_
      refine dn_icmp_ne (pc := 220) 233 dX10_sumProducts_220 rfl (fun _ => ?_) (fun _ => ?_)
      · refine dn_aload_n (pc := 233) l0 0 dX10_sumProducts_233 rfl ?_
        refine dn_getL (pc := 234) l0 lRX10_23 dX10_sumProducts_234 (fun v14 => ?_)
        exact dn_lv [2] rfl (hj237 l8 v13 v14)
      · refine dn_aload_n (pc := 223) l0 0 dX10_sumProducts_223 rfl ?_
        refine dn_getD (pc := 224) l0 lRX10_27 dX10_sumProducts_224 (fun v15 => ?_)
        refine dn_callSN0L (pc := 227) [.double v15]  kRX10_76 (mX12_codeOfReal w x b v15) rfl rfl (Nat.le_of_ble_eq_true rfl) ⟨(Nat.le_of_ble_eq_true rfl), (Nat.le_of_ble_eq_true rfl)⟩ ⟨rfl, rfl, (Nat.le_of_ble_eq_true rfl), (Nat.le_of_ble_eq_true rfl)⟩ dX10_sumProducts_227 (fun v16 => ?_)
        refine dn_goto (pc := 230) 237 dX10_sumProducts_230 rfl ?_
        exact dn_lv [2] rfl (hj237 l8 v13 v16)
  refine dn_iload_n (pc := 0) 1 dX10_sumProducts_0 rfl ?_
  refine dn_callSN0Z (pc := 1) [.int p1]  kRX10_38 (mX12_isGrid w x b p1) rfl rfl (Nat.le_of_ble_eq_true rfl) ⟨(Nat.le_of_ble_eq_true rfl), (Nat.le_of_ble_eq_true rfl)⟩ ⟨rfl, rfl, (Nat.le_of_ble_eq_true rfl), (Nat.le_of_ble_eq_true rfl)⟩ dX10_sumProducts_1 (fun v17 => ?_)
  refine dn_ifz_eq (pc := 4) 22 dX10_sumProducts_4 rfl (fun _ => ?_) (fun _ => ?_)
  · refine dn_iload_n (pc := 7) 3 dX10_sumProducts_7 rfl ?_
    refine dn_callSN0Z (pc := 8) [.int p3]  kRX10_38 (mX12_isGrid w x b p3) rfl rfl (Nat.le_of_ble_eq_true rfl) ⟨(Nat.le_of_ble_eq_true rfl), (Nat.le_of_ble_eq_true rfl)⟩ ⟨rfl, rfl, (Nat.le_of_ble_eq_true rfl), (Nat.le_of_ble_eq_true rfl)⟩ dX10_sumProducts_8 (fun v18 => ?_)
    refine dn_ifz_eq (pc := 11) 22 dX10_sumProducts_11 rfl (fun _ => ?_) (fun _ => ?_)
    · refine dn_iload (pc := 14) 5 dX10_sumProducts_14 rfl ?_
      refine dn_callS0Z (pc := 16) [.int p5]  kRX10_19 (mX10_isSummed w x b p5) rfl rfl (Nat.le_of_ble_eq_true rfl) ⟨(Nat.le_of_ble_eq_true rfl), (Nat.le_of_ble_eq_true rfl)⟩ ⟨rfl, rfl, (Nat.le_of_ble_eq_true rfl), (Nat.le_of_ble_eq_true rfl)⟩ dX10_sumProducts_16 (fun v19 => ?_)
      refine dn_ifz_ne (pc := 19) 24 dX10_sumProducts_19 rfl (fun _ => ?_) (fun _ => ?_)
      · refine dn_aload_n (pc := 24) r0 0 dX10_sumProducts_24 rfl ?_
        refine dn_getR (pc := 25) r0 lRX10_9 dX10_sumProducts_25 (fun v20 => ?_)
        refine dn_iload_n (pc := 28) 1 dX10_sumProducts_28 rfl ?_
        refine dn_iload_n (pc := 29) 2 dX10_sumProducts_29 rfl ?_
        refine dn_callV0R (pc := 30) [.int p1, .int p2] v20 kRX10_68 (mX9_rowAt w x b v20 p1 p2) rfl rfl (Nat.le_of_ble_eq_true rfl) ⟨(Nat.le_of_ble_eq_true rfl), (Nat.le_of_ble_eq_true rfl)⟩ ⟨rfl, rfl, (Nat.le_of_ble_eq_true rfl), (Nat.le_of_ble_eq_true rfl)⟩ dX10_sumProducts_30 (fun v21 => ?_)
        refine dn_astore (pc := 33) v21 dX10_sumProducts_33 (Nat.le_of_ble_eq_true rfl) (dnKp_nb 5 rfl rfl rfl (dnKp_of (lv2 := [(0, dnV b r0), (1, .int p1), (2, .int p2), (3, .int p3), (4, .int p4)]) [0, 1, 2, 3, 4] rfl rfl)) ?_
        refine dn_aload (pc := 35) v21 0 dX10_sumProducts_35 rfl ?_
        refine dn_ifnonnull (pc := 37) v21 50 dX10_sumProducts_37 rfl (fun e_ => ?_) (fun v22 e_ => ?_)
        · subst e_
          refine dn_aload_n (pc := 40) r0 2 dX10_sumProducts_40 rfl ?_
          refine dn_getR (pc := 41) r0 lRX10_9 dX10_sumProducts_41 (fun v23 => ?_)
          refine dn_iload_n (pc := 44) 3 dX10_sumProducts_44 rfl ?_
          refine dn_iload_n (pc := 45) 4 dX10_sumProducts_45 rfl ?_
          refine dn_callV0I (pc := 46) [.int p1, .int p2] v23 kRX10_125 (mX9_rowFault w x b v23 p1 p2) rfl rfl (Nat.le_of_ble_eq_true rfl) ⟨(Nat.le_of_ble_eq_true rfl), (Nat.le_of_ble_eq_true rfl)⟩ ⟨rfl, rfl, (Nat.le_of_ble_eq_true rfl), (Nat.le_of_ble_eq_true rfl)⟩ dX10_sumProducts_46 (fun v24 => ?_)
          exact dn_ret (Nat.le_of_ble_eq_true rfl) (Nat.le_of_ble_eq_true rfl) rfl dX10_sumProducts_49
        · subst e_
          refine dn_aload_n (pc := 50) r0 2 dX10_sumProducts_50 rfl ?_
          refine dn_getR (pc := 51) r0 lRX10_9 dX10_sumProducts_51 (fun v25 => ?_)
          refine dn_iload_n (pc := 54) 5 dX10_sumProducts_54 rfl ?_
          refine dn_iload (pc := 55) 6 dX10_sumProducts_55 rfl ?_
          refine dn_callV0R (pc := 57) [.int p3, .int p4] v25 kRX10_68 (mX9_rowAt w x b v25 p3 p4) rfl rfl (Nat.le_of_ble_eq_true rfl) ⟨(Nat.le_of_ble_eq_true rfl), (Nat.le_of_ble_eq_true rfl)⟩ ⟨rfl, rfl, (Nat.le_of_ble_eq_true rfl), (Nat.le_of_ble_eq_true rfl)⟩ dX10_sumProducts_57 (fun v26 => ?_)
          refine dn_astore (pc := 60) v26 dX10_sumProducts_60 (Nat.le_of_ble_eq_true rfl) (dnKp_nb 0 rfl (dn_cat b _) rfl (dnKp_of (lv2 := [(5, .int p5), (0, dnV b r0), (3, .int p3), (4, .int p4)]) [1, 2, 5, 6] rfl rfl)) ?_
          refine dn_aload (pc := 62) v26 0 dX10_sumProducts_62 rfl ?_
          refine dn_ifnonnull (pc := 64) v26 78 dX10_sumProducts_64 rfl (fun e_ => ?_) (fun v27 e_ => ?_)
          · subst e_
            refine dn_aload_n (pc := 67) r0 3 dX10_sumProducts_67 rfl ?_
            refine dn_getR (pc := 68) r0 lRX10_9 dX10_sumProducts_68 (fun v28 => ?_)
            refine dn_iload_n (pc := 71) 4 dX10_sumProducts_71 rfl ?_
            refine dn_iload (pc := 72) 5 dX10_sumProducts_72 rfl ?_
            refine dn_callV0I (pc := 74) [.int p3, .int p4] v28 kRX10_125 (mX9_rowFault w x b v28 p3 p4) rfl rfl (Nat.le_of_ble_eq_true rfl) ⟨(Nat.le_of_ble_eq_true rfl), (Nat.le_of_ble_eq_true rfl)⟩ ⟨rfl, rfl, (Nat.le_of_ble_eq_true rfl), (Nat.le_of_ble_eq_true rfl)⟩ dX10_sumProducts_74 (fun v29 => ?_)
            exact dn_ret (Nat.le_of_ble_eq_true rfl) (Nat.le_of_ble_eq_true rfl) rfl dX10_sumProducts_77
          · subst e_
            refine dn_aload (pc := 78) (some v22) 1 dX10_sumProducts_78 rfl ?_
            refine dn_getI (pc := 80) (some v22) lRX10_128 dX10_sumProducts_80 (fun v30 => ?_)
            refine dn_aload (pc := 83) (some v27) 0 dX10_sumProducts_83 rfl ?_
            refine dn_getI (pc := 85) (some v27) lRX10_128 dX10_sumProducts_85 (fun v31 => ?_)
            refine dn_callS0I (pc := 88) [.int v30, .int v31]  kRX10_131 (mJ9_min_7cf53 w x b v30 v31) rfl rfl (Nat.le_of_ble_eq_true rfl) ⟨(Nat.le_of_ble_eq_true rfl), (Nat.le_of_ble_eq_true rfl)⟩ ⟨rfl, rfl, (Nat.le_of_ble_eq_true rfl), (Nat.le_of_ble_eq_true rfl)⟩ dX10_sumProducts_88 (fun v32 => ?_)
            refine dn_istore (pc := 91) dX10_sumProducts_91 (Nat.le_of_ble_eq_true rfl) (dnKp_nb 0 rfl (dn_cat b _) rfl (dnKp_of (lv2 := [(6, dnV b (some v22)), (5, .int p5), (0, dnV b r0)]) [1, 2, 3] rfl rfl)) ?_
            refine dn_iload (pc := 93) 0 dX10_sumProducts_93 rfl ?_
            refine dn_if_le (pc := 95) 127 dX10_sumProducts_95 rfl (fun _ => ?_) (fun _ => ?_)
            · exact dn_lv [4, 3, 2, 1, 0] rfl (hj127 r0 p5 (some v22) (some v27) v32)
            · refine dn_aload (pc := 98) (some v22) 2 dX10_sumProducts_98 rfl ?_
              refine dn_getI (pc := 100) (some v22) lRX10_88 dX10_sumProducts_100 (fun v33 => ?_)
              refine dn_iload (pc := 103) 3 dX10_sumProducts_103 rfl ?_
              refine dn_callSN0Z (pc := 105) [.int v33, .int p5]  kRX10_93 (mX12_readsAs w x b v33 p5) rfl rfl (Nat.le_of_ble_eq_true rfl) ⟨(Nat.le_of_ble_eq_true rfl), (Nat.le_of_ble_eq_true rfl)⟩ ⟨rfl, rfl, (Nat.le_of_ble_eq_true rfl), (Nat.le_of_ble_eq_true rfl)⟩ dX10_sumProducts_105 (fun v34 => ?_)
              refine dn_ifz_eq (pc := 108) 124 dX10_sumProducts_108 rfl (fun _ => ?_) (fun _ => ?_)
              · refine dn_aload (pc := 111) (some v27) 1 dX10_sumProducts_111 rfl ?_
                refine dn_getI (pc := 113) (some v27) lRX10_88 dX10_sumProducts_113 (fun v35 => ?_)
                refine dn_iload (pc := 116) 3 dX10_sumProducts_116 rfl ?_
                refine dn_callSN0Z (pc := 118) [.int v35, .int p5]  kRX10_93 (mX12_readsAs w x b v35 p5) rfl rfl (Nat.le_of_ble_eq_true rfl) ⟨(Nat.le_of_ble_eq_true rfl), (Nat.le_of_ble_eq_true rfl)⟩ ⟨rfl, rfl, (Nat.le_of_ble_eq_true rfl), (Nat.le_of_ble_eq_true rfl)⟩ dX10_sumProducts_118 (fun v36 => ?_)
                refine dn_ifz_ne (pc := 121) 127 dX10_sumProducts_121 rfl (fun _ => ?_) (fun _ => ?_)
                · exact dn_lv [4, 3, 2, 1, 0] rfl (hj127 r0 p5 (some v22) (some v27) v32)
                · refine dn_bipush (pc := 124) (v := -7) dX10_sumProducts_124 rfl ?_
                  exact dn_ret (Nat.le_of_ble_eq_true rfl) (Nat.le_of_ble_eq_true rfl) rfl dX10_sumProducts_126
              · refine dn_bipush (pc := 124) (v := -7) dX10_sumProducts_124 rfl ?_
                exact dn_ret (Nat.le_of_ble_eq_true rfl) (Nat.le_of_ble_eq_true rfl) rfl dX10_sumProducts_126
      · refine dn_iconst (pc := 22) (v := -1) dX10_sumProducts_22 rfl ?_
        exact dn_ret (Nat.le_of_ble_eq_true rfl) (Nat.le_of_ble_eq_true rfl) rfl dX10_sumProducts_23
    · refine dn_iconst (pc := 22) (v := -1) dX10_sumProducts_22 rfl ?_
      exact dn_ret (Nat.le_of_ble_eq_true rfl) (Nat.le_of_ble_eq_true rfl) rfl dX10_sumProducts_23
  · refine dn_iconst (pc := 22) (v := -1) dX10_sumProducts_22 rfl ?_
    exact dn_ret (Nat.le_of_ble_eq_true rfl) (Nat.le_of_ble_eq_true rfl) rfl dX10_sumProducts_23
abbrev rmX11_addProducts : Room := { frames := 2, cells := 0, slots := 0, locals := 45 }
def fX11_addProducts_j74 (l0 : Option Nat) (l1 : Option Nat) (l2 : Option Nat) (l3 : Int32) (l4 : Int32) : dnM ((Int32) ⊕ (Unit)) :=
  dnP (.inl (l4 + 1))
def fX11_addProducts_b32 (c0 : Option Nat) (c1 : Option Nat) (c2 : Option Nat) (c3 : Int32) (c4 : Int32) (c5 : Option Nat) (s32 : Int32) : dnM ((Int32) ⊕ (Unit)) :=
  dnB (dnGI c5 4 2) fun v5 =>
  if v5 ≤ s32 then
  (dnP (.inr ()))
  else
  (dnB (dnGR c1 4 4) fun v6 =>
  dnB (dnAL v6 102 s32) fun v7 =>
  dnB (dnGR c2 4 4) fun v8 =>
  dnB (dnAL v8 102 c4) fun v9 =>
  dnB (dnGR c5 4 4) fun v10 =>
  dnB (dnAL v10 102 s32) fun v11 =>
  dnB (dnTL v6 102 s32 (v7 + (v9 * v11))) fun _ =>
  dnP (.inl (s32 + 1)))
def fX11_addProducts_b3 (c0 : Option Nat) (c1 : Option Nat) (c2 : Option Nat) (c3 : Int32) (s3 : Int32) : dnM ((Int32) ⊕ (Unit)) :=
  dnB (dnGI c2 4 2) fun v1 =>
  if v1 ≤ s3 then
  (dnP (.inr ()))
  else
  (dnB (dnGR c0 9 0) fun v2 =>
  dnB (dnCv v2 7 (fX9_rowAt v2 c3 s3)) fun v3 =>
  v3.elim
  (fX11_addProducts_j74 c0 c1 c2 c3 s3)
  (fun v4 => dnB (dnIt 1000 (fX11_addProducts_b32 c0 c1 c2 c3 s3 (some v4)) 0) fun q32 =>
  fX11_addProducts_j74 c0 c1 c2 c3 s3))
def fX11_addProducts (r0 : Option Nat) (r1 : Option Nat) (r2 : Option Nat) (p3 : Int32) : dnM Unit :=
  dnB (dnIt 1000 (fX11_addProducts_b3 r0 r1 r2 p3) 0) fun q3 =>
  dnP ()
abbrev jX11_addProducts (w : dnWd) (x : dnX) (b : Nat) := dnD w x b (fun _ => True) cX11_addProducts RX11 7 rmX11_addProducts "addProducts" eU
set_option maxHeartbeats 4000000 in
set_option maxRecDepth 100000 in
theorem mX11_addProducts (w : dnWd) (x : dnX) (b : Nat) (r0 : Option Nat) (r1 : Option Nat) (r2 : Option Nat) (p3 : Int32) : dnMt w x b yX11_addProducts cX11_addProducts 7 none rmX11_addProducts eU [dnV b r0, dnV b r1, dnV b r2, .int p3] (fX11_addProducts r0 r1 r2 p3) := by
  have hlv : lv_args 0 [dnV b r0, dnV b r1, dnV b r2, .int p3] = [(0, dnV b r0), (1, dnV b r1), (2, dnV b r2), (3, .int p3)] := by cases r0 <;> cases r1 <;> cases r2 <;> rfl
  refine dn_mt (by decide +kernel) roU (by cases r0 <;> cases r1 <;> cases r2 <;> exact (Nat.le_of_ble_eq_true rfl)) ?_
  rw [hlv]
  refine dn_top ?_
  show jX11_addProducts w x b 0 0 0 _ [] (dnB _ dnP)
  unfold fX11_addProducts
  refine dn_iconst (pc := 0) (v := 0) dX11_addProducts_0 rfl ?_
  refine dn_istore (pc := 1) dX11_addProducts_1 (Nat.le_of_ble_eq_true rfl) (dnKp_nb 3 rfl rfl rfl (dnKp_of (lv2 := [(0, dnV b r0), (1, dnV b r1), (2, dnV b r2)]) [0, 1, 2] rfl rfl)) ?_
  refine dn_assoc ?_
  refine dn_lv [2, 3, 4, 1, 0] (lv2 := (fun s => [(0, dnV b r0), (1, dnV b r1), (2, dnV b r2), (3, .int p3), (4, .int s)]) 0) rfl ?_
  refine dn_loopE (pc := 3) (body := fX11_addProducts_b3 r0 r1 r2 p3) 80 (fun s => [(0, dnV b r0), (1, dnV b r1), (2, dnV b r2), (3, .int p3), (4, .int s)]) (fun q => []) (fun s3 K3 E3 hK3 hE3 => ?_) (fun q3 => ?_) 1000 0
  · unfold fX11_addProducts_b3
    have hj74 : ∀ (l4 : Int32), jX11_addProducts w x b 74 0 0 [(0, dnV b r0), (1, dnV b r1), (2, dnV b r2), (3, .int p3), (4, .int l4)] [] (dnB (fX11_addProducts_j74 r0 r1 r2 p3 l4) (dnKo K3 E3)) := by
      intro l4
      unfold fX11_addProducts_j74
      refine dn_iinc (pc := 74) (l4 + 1) 4 dX11_addProducts_74 rfl rfl (Nat.le_of_ble_eq_true rfl) (dnKp_nb 3 rfl rfl rfl (dnKp_of (lv2 := [(0, dnV b r0), (1, dnV b r1), (2, dnV b r2)]) [0, 1, 2] rfl rfl)) ?_
      refine dn_goto (pc := 77) 3 dX11_addProducts_77 rfl ?_
      refine dn_leaf ?_
      exact dn_lv [2, 3, 4, 1, 0] rfl (hK3 (l4 + 1))
    refine dn_iload (pc := 3) 4 dX11_addProducts_3 rfl ?_
    refine dn_aload_n (pc := 5) r2 2 dX11_addProducts_5 rfl ?_
    refine dn_getI (pc := 6) r2 lRX11_41 dX11_addProducts_6 (fun v1 => ?_)
    refine dn_icmp_ge (pc := 9) 80 dX11_addProducts_9 rfl (fun _ => ?_) (fun _ => ?_)
    · refine dn_leaf ?_
      exact dn_lv [] rfl (hE3 ())
    · refine dn_aload_n (pc := 12) r0 0 dX11_addProducts_12 rfl ?_
      refine dn_getR (pc := 13) r0 lRX11_9 dX11_addProducts_13 (fun v2 => ?_)
      refine dn_iload_n (pc := 16) 3 dX11_addProducts_16 rfl ?_
      refine dn_iload (pc := 17) 4 dX11_addProducts_17 rfl ?_
      refine dn_callV0R (pc := 19) [.int p3, .int s3] v2 kRX11_37 (mX9_rowAt w x b v2 p3 s3) rfl rfl (Nat.le_of_ble_eq_true rfl) ⟨(Nat.le_of_ble_eq_true rfl), (Nat.le_of_ble_eq_true rfl)⟩ ⟨rfl, rfl, (Nat.le_of_ble_eq_true rfl), (Nat.le_of_ble_eq_true rfl)⟩ dX11_addProducts_19 (fun v3 => ?_)
      refine dn_astore (pc := 22) v3 dX11_addProducts_22 (Nat.le_of_ble_eq_true rfl) (dnKp_nb 4 rfl rfl rfl (dnKp_of (lv2 := [(0, dnV b r0), (1, dnV b r1), (2, dnV b r2), (3, .int p3)]) [0, 1, 2, 3] rfl rfl)) ?_
      refine dn_aload (pc := 24) v3 0 dX11_addProducts_24 rfl ?_
      refine dn_ifnull (pc := 26) v3 74 dX11_addProducts_26 rfl (fun e_ => ?_) (fun v4 e_ => ?_)
      · subst e_
        exact dn_lv [2, 3, 4, 5, 1] rfl (hj74 s3)
      · subst e_
        refine dn_iconst (pc := 29) (v := 0) dX11_addProducts_29 rfl ?_
        refine dn_istore (pc := 30) dX11_addProducts_30 (Nat.le_of_ble_eq_true rfl) (dnKp_nb 0 rfl (dn_cat b _) rfl (dnKp_of (lv2 := [(4, .int s3), (0, dnV b r0), (1, dnV b r1), (2, dnV b r2), (3, .int p3)]) [1, 2, 3, 4, 5] rfl rfl)) ?_
        refine dn_assoc ?_
        refine dn_lv [3, 4, 5, 6, 2, 1, 0] (lv2 := (fun s => [(0, dnV b r0), (1, dnV b r1), (2, dnV b r2), (3, .int p3), (4, .int s3), (5, dnV b (some v4)), (6, .int s)]) 0) rfl ?_
        refine dn_loopE (pc := 32) (body := fX11_addProducts_b32 r0 r1 r2 p3 s3 (some v4)) 74 (fun s => [(0, dnV b r0), (1, dnV b r1), (2, dnV b r2), (3, .int p3), (4, .int s3), (5, dnV b (some v4)), (6, .int s)]) (fun q => [(0, dnV b r0), (1, dnV b r1), (2, dnV b r2), (3, .int p3), (4, .int s3)]) (fun s32 K32 E32 hK32 hE32 => ?_) (fun q32 => ?_) 1000 0
        · unfold fX11_addProducts_b32
          refine dn_iload (pc := 32) 6 dX11_addProducts_32 rfl ?_
          refine dn_aload (pc := 34) (some v4) 5 dX11_addProducts_34 rfl ?_
          refine dn_getI (pc := 36) (some v4) lRX11_41 dX11_addProducts_36 (fun v5 => ?_)
          refine dn_icmp_ge (pc := 39) 74 dX11_addProducts_39 rfl (fun _ => ?_) (fun _ => ?_)
          · refine dn_leaf ?_
            exact dn_lv [0, 1, 2, 3, 4] rfl (hE32 ())
          · refine dn_aload_n (pc := 42) r1 1 dX11_addProducts_42 rfl ?_
            refine dn_getR (pc := 43) r1 lRX11_111 dX11_addProducts_43 (fun v6 => ?_)
            refine dn_iload (pc := 46) 6 dX11_addProducts_46 rfl ?_
            refine dn_dup2_11 (pc := 48) dX11_addProducts_48 rfl (dn_cat b _) ?_
            refine dn_lald (pc := 49) v6 dX11_addProducts_49 (fun v7 => ?_)
            refine dn_aload_n (pc := 50) r2 2 dX11_addProducts_50 rfl ?_
            refine dn_getR (pc := 51) r2 lRX11_111 dX11_addProducts_51 (fun v8 => ?_)
            refine dn_iload (pc := 54) 4 dX11_addProducts_54 rfl ?_
            refine dn_lald (pc := 56) v8 dX11_addProducts_56 (fun v9 => ?_)
            refine dn_aload (pc := 57) (some v4) 5 dX11_addProducts_57 rfl ?_
            refine dn_getR (pc := 59) (some v4) lRX11_111 dX11_addProducts_59 (fun v10 => ?_)
            refine dn_iload (pc := 62) 6 dX11_addProducts_62 rfl ?_
            refine dn_lald (pc := 64) v10 dX11_addProducts_64 (fun v11 => ?_)
            refine dn_lmul (pc := 65) dX11_addProducts_65 ?_
            refine dn_ladd (pc := 66) dX11_addProducts_66 ?_
            refine dn_last (pc := 67) v6 dX11_addProducts_67 ?_
            refine dn_iinc (pc := 68) (s32 + 1) 6 dX11_addProducts_68 rfl rfl (Nat.le_of_ble_eq_true rfl) (dnKp_nb 5 rfl (dn_cat b _) rfl (dnKp_of (lv2 := [(0, dnV b r0), (1, dnV b r1), (2, dnV b r2), (3, .int p3), (4, .int s3)]) [0, 1, 2, 3, 4] rfl rfl)) ?_
            refine dn_goto (pc := 71) 32 dX11_addProducts_71 rfl ?_
            refine dn_leaf ?_
            exact dn_lv [2, 3, 4, 5, 6, 1, 0] rfl (hK32 (s32 + 1))
        · exact dn_lv [0, 1, 2, 3, 4] rfl (hj74 s3)
  · exact dn_ret (Nat.le_of_ble_eq_true rfl) (Nat.le_of_ble_eq_true rfl) rfl dX11_addProducts_80
abbrev rmX5_floatAt : Room := { frames := 1, cells := 0, slots := 0, locals := 20 }
def fX5_floatAt (r0 : Option Nat) (p1 : Int32) : dnM UInt32 :=
  dnB (dnGR r0 4 3) fun v1 =>
  dnB (dnAI v1 100 p1) fun v2 =>
  dnB (fX12_isReal v2) fun v3 =>
  if v3 = true then
  (dnB (dnGR r0 4 5) fun v6 =>
  dnB (dnAD v6 103 p1) fun v7 =>
  dnB (dnN32 (FP.d2f v7)) fun v8 =>
  dnP v8)
  else
  (dnB (dnGR r0 4 4) fun v4 =>
  dnB (dnAL v4 102 p1) fun v5 =>
  dnP (FP.l2f v5))
abbrev jX5_floatAt (w : dnWd) (x : dnX) (b : Nat) := dnD w x b (fun _ => True) cX5_floatAt RX5 2 rmX5_floatAt "floatAt" eF
set_option maxHeartbeats 4000000 in
set_option maxRecDepth 100000 in
theorem mX5_floatAt (w : dnWd) (x : dnX) (b : Nat) (r0 : Option Nat) (p1 : Int32) : dnMt w x b yX5_floatAt cX5_floatAt 2 (some .float) rmX5_floatAt eF [dnV b r0, .int p1] (fX5_floatAt r0 p1) := by
  have hlv : lv_args 0 [dnV b r0, .int p1] = [(0, dnV b r0), (1, .int p1)] := by cases r0 <;> rfl
  refine dn_mt (by decide +kernel) roF (by cases r0 <;> exact (Nat.le_of_ble_eq_true rfl)) ?_
  rw [hlv]
  refine dn_top ?_
  show jX5_floatAt w x b 0 0 0 _ [] (dnB _ dnP)
  unfold fX5_floatAt
  refine dn_aload_n (pc := 0) r0 0 dX5_floatAt_0 rfl ?_
  refine dn_getR (pc := 1) r0 lRX5_18 dX5_floatAt_1 (fun v1 => ?_)
  refine dn_iload_n (pc := 4) 1 dX5_floatAt_4 rfl ?_
  refine dn_iald (pc := 5) v1 dX5_floatAt_5 (fun v2 => ?_)
  refine dn_callSN0Z (pc := 6) [.int v2]  kRX5_72 (mX12_isReal w x b v2) rfl rfl (Nat.le_of_ble_eq_true rfl) ⟨(Nat.le_of_ble_eq_true rfl), (Nat.le_of_ble_eq_true rfl)⟩ ⟨rfl, rfl, (Nat.le_of_ble_eq_true rfl), (Nat.le_of_ble_eq_true rfl)⟩ dX5_floatAt_6 (fun v3 => ?_)
  refine dn_ifz_eq (pc := 9) 22 dX5_floatAt_9 rfl (fun _ => ?_) (fun _ => ?_)
  · refine dn_aload_n (pc := 12) r0 0 dX5_floatAt_12 rfl ?_
    refine dn_getR (pc := 13) r0 lRX5_26 dX5_floatAt_13 (fun v6 => ?_)
    refine dn_iload_n (pc := 16) 1 dX5_floatAt_16 rfl ?_
    refine dn_dald (pc := 17) v6 dX5_floatAt_17 (fun v7 => ?_)
    refine dn_d2f (pc := 18) dX5_floatAt_18 (fun v8 => ?_)
    refine dn_goto (pc := 19) 29 dX5_floatAt_19 rfl ?_
    exact dn_ret (Nat.le_of_ble_eq_true rfl) (Nat.le_of_ble_eq_true rfl) rfl dX5_floatAt_29
  · refine dn_aload_n (pc := 22) r0 0 dX5_floatAt_22 rfl ?_
    refine dn_getR (pc := 23) r0 lRX5_22 dX5_floatAt_23 (fun v4 => ?_)
    refine dn_iload_n (pc := 26) 1 dX5_floatAt_26 rfl ?_
    refine dn_lald (pc := 27) v4 dX5_floatAt_27 (fun v5 => ?_)
    refine dn_l2f (pc := 28) dX5_floatAt_28 ?_
    exact dn_ret (Nat.le_of_ble_eq_true rfl) (Nat.le_of_ble_eq_true rfl) rfl dX5_floatAt_29
abbrev rmX5_accept : Room := { frames := 2, cells := 0, slots := 0, locals := 41 }
def fX5_accept_j85 (s0 : Option Nat) (s1 : Int32) (s2 : UInt64) : dnM Bool :=
  dnB (dnTD s0 103 s1 s2) fun _ =>
  dnP true
def fX5_accept_j46 (l0 : Option Nat) (l1 : Int32) (l2 : Option Nat) (l3 : Int32) (s0 : Option Nat) (s1 : Int32) (s2 : Int32) : dnM Bool :=
  dnB (dnTI s0 100 s1 s2) fun _ =>
  dnB (dnGI l0 4 1) fun v1 =>
  dnB (fX12_isReal v1) fun v2 =>
  if v2 = true then
  (dnB (dnGR l0 4 5) fun v9 =>
  dnB (dnGI l0 4 1) fun v10 =>
  if ¬ v10 = 6 then
  (dnB (dnCv l2 4 (fX5_doubleAt l2 l3)) fun v11 =>
  fX5_accept_j85 v9 l1 v11)
  else
  (dnB (dnCv l2 4 (fX5_floatAt l2 l3)) fun v12 =>
  dnB (dnN64 (FP.f2d v12)) fun v13 =>
  fX5_accept_j85 v9 l1 v13))
  else
  (dnB (dnGR l0 4 4) fun v3 =>
  dnB (dnGR l2 4 4) fun v4 =>
  dnB (dnAL v4 102 l3) fun v5 =>
  dnB (dnTL v3 102 l1 v5) fun _ =>
  dnB (dnGR l0 4 5) fun v6 =>
  dnB (dnGR l2 4 5) fun v7 =>
  dnB (dnAD v7 103 l3) fun v8 =>
  dnB (dnTD v6 103 l1 v8) fun _ =>
  dnP true)
def fX5_accept (r0 : Option Nat) (p1 : Int32) (r2 : Option Nat) (p3 : Int32) : dnM Bool :=
  dnB (dnGR r2 4 3) fun v14 =>
  dnB (dnAI v14 100 p3) fun v15 =>
  dnB (dnGI r0 4 1) fun v16 =>
  dnB (fX12_takes v16 v15) fun v17 =>
  if v17 = true then
  (dnB (dnGR r0 4 3) fun v18 =>
  dnB (dnGI r0 4 1) fun v19 =>
  dnB (fX12_isPlain v19) fun v20 =>
  if v20 = true then
  (dnB (dnGI r0 4 1) fun v21 =>
  fX5_accept_j46 r0 p1 r2 p3 v18 p1 v21)
  else
  (fX5_accept_j46 r0 p1 r2 p3 v18 p1 v15))
  else
  (dnP false)
abbrev jX5_accept (w : dnWd) (x : dnX) (b : Nat) := dnD w x b (fun _ => True) cX5_accept RX5 5 rmX5_accept "accept" eZ
set_option maxHeartbeats 4000000 in
set_option maxRecDepth 100000 in
theorem mX5_accept (w : dnWd) (x : dnX) (b : Nat) (r0 : Option Nat) (p1 : Int32) (r2 : Option Nat) (p3 : Int32) : dnMt w x b yX5_accept cX5_accept 5 (some .boolean) rmX5_accept eZ [dnV b r0, .int p1, dnV b r2, .int p3] (fX5_accept r0 p1 r2 p3) := by
  have hlv : lv_args 0 [dnV b r0, .int p1, dnV b r2, .int p3] = [(0, dnV b r0), (1, .int p1), (2, dnV b r2), (3, .int p3)] := by cases r0 <;> cases r2 <;> rfl
  refine dn_mt (by decide +kernel) roZ (by cases r0 <;> cases r2 <;> exact (Nat.le_of_ble_eq_true rfl)) ?_
  rw [hlv]
  refine dn_top ?_
  show jX5_accept w x b 0 0 0 _ [] (dnB _ dnP)
  unfold fX5_accept
  have hj85 : ∀ (s0 : Option Nat) (s1 : Int32) (s2 : UInt64), jX5_accept w x b 85 0 0 [] [.double s2, .int s1, dnV b s0] (dnB (fX5_accept_j85 s0 s1 s2) dnP) := by
    intro s0 s1 s2
    unfold fX5_accept_j85
    refine dn_dast (pc := 85) s0 dX5_accept_85 ?_
    refine dn_goto (pc := 86) 113 dX5_accept_86 rfl ?_
    refine dn_iconst (pc := 113) (v := 1) dX5_accept_113 rfl ?_
    exact dn_ret (Nat.le_of_ble_eq_true rfl) (Nat.le_of_ble_eq_true rfl) rfl dX5_accept_114
  have hj46 : ∀ (l0 : Option Nat) (l1 : Int32) (l2 : Option Nat) (l3 : Int32) (s0 : Option Nat) (s1 : Int32) (s2 : Int32), jX5_accept w x b 46 0 0 [(0, dnV b l0), (1, .int l1), (2, dnV b l2), (3, .int l3)] [.int s2, .int s1, dnV b s0] (dnB (fX5_accept_j46 l0 l1 l2 l3 s0 s1 s2) dnP) := by
    intro l0 l1 l2 l3 s0 s1 s2
    unfold fX5_accept_j46
    refine dn_iast (pc := 46) s0 dX5_accept_46 ?_
    refine dn_aload_n (pc := 47) l0 0 dX5_accept_47 rfl ?_
    refine dn_getI (pc := 48) l0 lRX5_9 dX5_accept_48 (fun v1 => ?_)
    refine dn_callSN0Z (pc := 51) [.int v1]  kRX5_72 (mX12_isReal w x b v1) rfl rfl (Nat.le_of_ble_eq_true rfl) ⟨(Nat.le_of_ble_eq_true rfl), (Nat.le_of_ble_eq_true rfl)⟩ ⟨rfl, rfl, (Nat.le_of_ble_eq_true rfl), (Nat.le_of_ble_eq_true rfl)⟩ dX5_accept_51 (fun v2 => ?_)
    refine dn_ifz_eq (pc := 54) 89 dX5_accept_54 rfl (fun _ => ?_) (fun _ => ?_)
    · refine dn_aload_n (pc := 57) l0 0 dX5_accept_57 rfl ?_
      refine dn_getR (pc := 58) l0 lRX5_26 dX5_accept_58 (fun v9 => ?_)
      refine dn_iload_n (pc := 61) 1 dX5_accept_61 rfl ?_
      refine dn_aload_n (pc := 62) l0 0 dX5_accept_62 rfl ?_
      refine dn_getI (pc := 63) l0 lRX5_9 dX5_accept_63 (fun v10 => ?_)
      refine dn_bipush (pc := 66) (v := 6) dX5_accept_66 rfl ?_
      refine dn_icmp_ne (pc := 68) 80 dX5_accept_68 rfl (fun _ => ?_) (fun _ => ?_)
      · refine dn_aload_n (pc := 80) l2 2 dX5_accept_80 rfl ?_
        refine dn_iload_n (pc := 81) 3 dX5_accept_81 rfl ?_
        refine dn_callV0D (pc := 82) [.int l3] l2 kRX5_79 (mX5_doubleAt w x b l2 l3) rfl rfl (Nat.le_of_ble_eq_true rfl) ⟨(Nat.le_of_ble_eq_true rfl), (Nat.le_of_ble_eq_true rfl)⟩ ⟨rfl, rfl, (Nat.le_of_ble_eq_true rfl), (Nat.le_of_ble_eq_true rfl)⟩ dX5_accept_82 (fun v11 => ?_)
        exact dn_lv [] rfl (hj85 v9 l1 v11)
      · refine dn_aload_n (pc := 71) l2 2 dX5_accept_71 rfl ?_
        refine dn_iload_n (pc := 72) 3 dX5_accept_72 rfl ?_
        refine dn_callV0F (pc := 73) [.int l3] l2 kRX5_75 (mX5_floatAt w x b l2 l3) rfl rfl (Nat.le_of_ble_eq_true rfl) ⟨(Nat.le_of_ble_eq_true rfl), (Nat.le_of_ble_eq_true rfl)⟩ ⟨rfl, rfl, (Nat.le_of_ble_eq_true rfl), (Nat.le_of_ble_eq_true rfl)⟩ dX5_accept_73 (fun v12 => ?_)
        refine dn_f2d (pc := 76) dX5_accept_76 (fun v13 => ?_)
        refine dn_goto (pc := 77) 85 dX5_accept_77 rfl ?_
        exact dn_lv [] rfl (hj85 v9 l1 v13)
    · refine dn_aload_n (pc := 89) l0 0 dX5_accept_89 rfl ?_
      refine dn_getR (pc := 90) l0 lRX5_22 dX5_accept_90 (fun v3 => ?_)
      refine dn_iload_n (pc := 93) 1 dX5_accept_93 rfl ?_
      refine dn_aload_n (pc := 94) l2 2 dX5_accept_94 rfl ?_
      refine dn_getR (pc := 95) l2 lRX5_22 dX5_accept_95 (fun v4 => ?_)
      refine dn_iload_n (pc := 98) 3 dX5_accept_98 rfl ?_
      refine dn_lald (pc := 99) v4 dX5_accept_99 (fun v5 => ?_)
      refine dn_last (pc := 100) v3 dX5_accept_100 ?_
      refine dn_aload_n (pc := 101) l0 0 dX5_accept_101 rfl ?_
      refine dn_getR (pc := 102) l0 lRX5_26 dX5_accept_102 (fun v6 => ?_)
      refine dn_iload_n (pc := 105) 1 dX5_accept_105 rfl ?_
      refine dn_aload_n (pc := 106) l2 2 dX5_accept_106 rfl ?_
      refine dn_getR (pc := 107) l2 lRX5_26 dX5_accept_107 (fun v7 => ?_)
      refine dn_iload_n (pc := 110) 3 dX5_accept_110 rfl ?_
      refine dn_dald (pc := 111) v7 dX5_accept_111 (fun v8 => ?_)
      refine dn_dast (pc := 112) v6 dX5_accept_112 ?_
      refine dn_iconst (pc := 113) (v := 1) dX5_accept_113 rfl ?_
      exact dn_ret (Nat.le_of_ble_eq_true rfl) (Nat.le_of_ble_eq_true rfl) rfl dX5_accept_114
  refine dn_aload_n (pc := 0) r2 2 dX5_accept_0 rfl ?_
  refine dn_getR (pc := 1) r2 lRX5_18 dX5_accept_1 (fun v14 => ?_)
  refine dn_iload_n (pc := 4) 3 dX5_accept_4 rfl ?_
  refine dn_iald (pc := 5) v14 dX5_accept_5 (fun v15 => ?_)
  refine dn_istore (pc := 6) dX5_accept_6 (Nat.le_of_ble_eq_true rfl) (dnKp_nb 3 rfl rfl rfl (dnKp_of (lv2 := [(0, dnV b r0), (1, .int p1), (2, dnV b r2)]) [0, 1, 2] rfl rfl)) ?_
  refine dn_aload_n (pc := 8) r0 2 dX5_accept_8 rfl ?_
  refine dn_getI (pc := 9) r0 lRX5_9 dX5_accept_9 (fun v16 => ?_)
  refine dn_iload (pc := 12) 0 dX5_accept_12 rfl ?_
  refine dn_callSN0Z (pc := 14) [.int v16, .int v15]  kRX5_64 (mX12_takes w x b v16 v15) rfl rfl (Nat.le_of_ble_eq_true rfl) ⟨(Nat.le_of_ble_eq_true rfl), (Nat.le_of_ble_eq_true rfl)⟩ ⟨rfl, rfl, (Nat.le_of_ble_eq_true rfl), (Nat.le_of_ble_eq_true rfl)⟩ dX5_accept_14 (fun v17 => ?_)
  refine dn_ifz_ne (pc := 17) 22 dX5_accept_17 rfl (fun _ => ?_) (fun _ => ?_)
  · refine dn_aload_n (pc := 22) r0 2 dX5_accept_22 rfl ?_
    refine dn_getR (pc := 23) r0 lRX5_18 dX5_accept_23 (fun v18 => ?_)
    refine dn_iload_n (pc := 26) 3 dX5_accept_26 rfl ?_
    refine dn_aload_n (pc := 27) r0 2 dX5_accept_27 rfl ?_
    refine dn_getI (pc := 28) r0 lRX5_9 dX5_accept_28 (fun v19 => ?_)
    refine dn_callSN0Z (pc := 31) [.int v19]  kRX5_68 (mX12_isPlain w x b v19) rfl rfl (Nat.le_of_ble_eq_true rfl) ⟨(Nat.le_of_ble_eq_true rfl), (Nat.le_of_ble_eq_true rfl)⟩ ⟨rfl, rfl, (Nat.le_of_ble_eq_true rfl), (Nat.le_of_ble_eq_true rfl)⟩ dX5_accept_31 (fun v20 => ?_)
    refine dn_ifz_eq (pc := 34) 44 dX5_accept_34 rfl (fun _ => ?_) (fun _ => ?_)
    · refine dn_aload_n (pc := 37) r0 2 dX5_accept_37 rfl ?_
      refine dn_getI (pc := 38) r0 lRX5_9 dX5_accept_38 (fun v21 => ?_)
      refine dn_goto (pc := 41) 46 dX5_accept_41 rfl ?_
      exact dn_lv [2, 3, 4, 1] rfl (hj46 r0 p1 r2 p3 v18 p1 v21)
    · refine dn_iload (pc := 44) 0 dX5_accept_44 rfl ?_
      exact dn_lv [2, 3, 4, 1] rfl (hj46 r0 p1 r2 p3 v18 p1 v15)
  · refine dn_iconst (pc := 20) (v := 0) dX5_accept_20 rfl ?_
    exact dn_ret (Nat.le_of_ble_eq_true rfl) (Nat.le_of_ble_eq_true rfl) rfl dX5_accept_21
abbrev rmX6_append : Room := { frames := 3, cells := 0, slots := 0, locals := 65 }
def fX6_append_b3 (c0 : Option Nat) (c1 : Int32) (c2 : Option Nat) (c3 : Int32) (c4 : Int32) (s3 : Int32) : dnM ((Int32) ⊕ (Unit)) :=
  if c4 ≤ s3 then
  (dnP (.inr ()))
  else
  (dnB (dnCv c0 4 (fX5_accept c0 (c1 + s3) c2 (c3 + s3))) fun v1 =>
  dnP (.inl (s3 + 1)))
def fX6_append (r0 : Option Nat) (p1 : Int32) (r2 : Option Nat) (p3 : Int32) (p4 : Int32) : dnM Unit :=
  dnB (dnIt 1000 (fX6_append_b3 r0 p1 r2 p3 p4) 0) fun q3 =>
  dnP ()
abbrev jX6_append (w : dnWd) (x : dnX) (b : Nat) := dnD w x b (fun _ => True) cX6_append RX6 6 rmX6_append "append" eU
set_option maxHeartbeats 4000000 in
set_option maxRecDepth 100000 in
theorem mX6_append (w : dnWd) (x : dnX) (b : Nat) (r0 : Option Nat) (p1 : Int32) (r2 : Option Nat) (p3 : Int32) (p4 : Int32) : dnMt w x b yX6_append cX6_append 6 none rmX6_append eU [dnV b r0, .int p1, dnV b r2, .int p3, .int p4] (fX6_append r0 p1 r2 p3 p4) := by
  have hlv : lv_args 0 [dnV b r0, .int p1, dnV b r2, .int p3, .int p4] = [(0, dnV b r0), (1, .int p1), (2, dnV b r2), (3, .int p3), (4, .int p4)] := by cases r0 <;> cases r2 <;> rfl
  refine dn_mt (by decide +kernel) roU (by cases r0 <;> cases r2 <;> exact (Nat.le_of_ble_eq_true rfl)) ?_
  rw [hlv]
  refine dn_top ?_
  show jX6_append w x b 0 0 0 _ [] (dnB _ dnP)
  unfold fX6_append
  refine dn_iconst (pc := 0) (v := 0) dX6_append_0 rfl ?_
  refine dn_istore (pc := 1) dX6_append_1 (Nat.le_of_ble_eq_true rfl) (dnKp_nb 4 rfl rfl rfl (dnKp_of (lv2 := [(0, dnV b r0), (1, .int p1), (2, dnV b r2), (3, .int p3)]) [0, 1, 2, 3] rfl rfl)) ?_
  refine dn_assoc ?_
  refine dn_lv [2, 3, 4, 5, 1, 0] (lv2 := (fun s => [(0, dnV b r0), (1, .int p1), (2, dnV b r2), (3, .int p3), (4, .int p4), (5, .int s)]) 0) rfl ?_
  refine dn_loopE (pc := 3) (body := fX6_append_b3 r0 p1 r2 p3 p4) 30 (fun s => [(0, dnV b r0), (1, .int p1), (2, dnV b r2), (3, .int p3), (4, .int p4), (5, .int s)]) (fun q => []) (fun s3 K3 E3 hK3 hE3 => ?_) (fun q3 => ?_) 1000 0
  · unfold fX6_append_b3
    refine dn_iload (pc := 3) 5 dX6_append_3 rfl ?_
    refine dn_iload (pc := 5) 4 dX6_append_5 rfl ?_
    refine dn_icmp_ge (pc := 7) 30 dX6_append_7 rfl (fun _ => ?_) (fun _ => ?_)
    · refine dn_leaf ?_
      exact dn_lv [] rfl (hE3 ())
    · refine dn_aload_n (pc := 10) r0 0 dX6_append_10 rfl ?_
      refine dn_iload_n (pc := 11) 1 dX6_append_11 rfl ?_
      refine dn_iload (pc := 12) 5 dX6_append_12 rfl ?_
      refine dn_iadd (pc := 14) dX6_append_14 ?_
      refine dn_aload_n (pc := 15) r2 2 dX6_append_15 rfl ?_
      refine dn_iload_n (pc := 16) 3 dX6_append_16 rfl ?_
      refine dn_iload (pc := 17) 5 dX6_append_17 rfl ?_
      refine dn_iadd (pc := 19) dX6_append_19 ?_
      refine dn_callV0Z (pc := 20) [.int (p1 + s3), dnV b r2, .int (p3 + s3)] r0 kRX6_60 (mX5_accept w x b r0 (p1 + s3) r2 (p3 + s3)) rfl rfl (Nat.le_of_ble_eq_true rfl) ⟨(Nat.le_of_ble_eq_true rfl), (Nat.le_of_ble_eq_true rfl)⟩ ⟨rfl, rfl, (Nat.le_of_ble_eq_true rfl), (Nat.le_of_ble_eq_true rfl)⟩ dX6_append_20 (fun v1 => ?_)
      refine dn_pop (pc := 23) dX6_append_23 rfl ?_
      refine dn_iinc (pc := 24) (s3 + 1) 5 dX6_append_24 rfl rfl (Nat.le_of_ble_eq_true rfl) (dnKp_nb 4 rfl rfl rfl (dnKp_of (lv2 := [(0, dnV b r0), (1, .int p1), (2, dnV b r2), (3, .int p3)]) [0, 1, 2, 3] rfl rfl)) ?_
      refine dn_goto (pc := 27) 3 dX6_append_27 rfl ?_
      refine dn_leaf ?_
      exact dn_lv [2, 3, 4, 5, 1, 0] rfl (hK3 (s3 + 1))
  · exact dn_ret (Nat.le_of_ble_eq_true rfl) (Nat.le_of_ble_eq_true rfl) rfl dX6_append_30
abbrev rmX9_finishGrid : Room := { frames := 0, cells := 0, slots := 0, locals := 0 }
def fX9_finishGrid_b14 (c0 : Option Nat) (c1 : Int32) (s14 : Int32) : dnM ((Int32) ⊕ (Unit)) :=
  if 6 ≤ s14 then
  (dnP (.inr ()))
  else
  (dnB (dnGR c0 7 1) fun v4 =>
  dnB (dnGR c0 7 1) fun v5 =>
  dnB (dnAI v5 100 (24 + s14)) fun v6 =>
  dnB (dnTI v4 100 ((c1 * 6) + s14) v6) fun _ =>
  dnB (dnGR c0 7 1) fun v7 =>
  dnB (dnTI v7 100 (24 + s14) (-14)) fun _ =>
  dnP (.inl (s14 + 1)))
def fX9_finishGrid (r0 : Option Nat) (p1 : Int32) : dnM Int32 :=
  dnB (dnGR r0 7 0) fun v1 =>
  dnB (dnGR r0 7 0) fun v2 =>
  dnB (dnAI v2 100 4) fun v3 =>
  dnB (dnTI v1 100 p1 v3) fun _ =>
  dnB (dnIt 1000 (fX9_finishGrid_b14 r0 p1) 0) fun q14 =>
  dnB (dnGR r0 7 0) fun v8 =>
  dnB (dnAI v8 100 p1) fun v9 =>
  dnP v9
abbrev jX9_finishGrid (w : dnWd) (x : dnX) (b : Nat) := dnD w x b (fun _ => True) cX9_finishGrid RX9 3 rmX9_finishGrid "finishGrid" eI
set_option maxHeartbeats 4000000 in
set_option maxRecDepth 100000 in
theorem mX9_finishGrid (w : dnWd) (x : dnX) (b : Nat) (r0 : Option Nat) (p1 : Int32) : dnMt w x b yX9_finishGrid cX9_finishGrid 3 (some .int) rmX9_finishGrid eI [dnV b r0, .int p1] (fX9_finishGrid r0 p1) := by
  have hlv : lv_args 0 [dnV b r0, .int p1] = [(0, dnV b r0), (1, .int p1)] := by cases r0 <;> rfl
  refine dn_mt (by decide +kernel) roI (by cases r0 <;> exact (Nat.le_of_ble_eq_true rfl)) ?_
  rw [hlv]
  refine dn_top ?_
  show jX9_finishGrid w x b 0 0 0 _ [] (dnB _ dnP)
  unfold fX9_finishGrid
  refine dn_aload_n (pc := 0) r0 0 dX9_finishGrid_0 rfl ?_
  refine dn_getR (pc := 1) r0 lRX9_9 dX9_finishGrid_1 (fun v1 => ?_)
  refine dn_iload_n (pc := 4) 1 dX9_finishGrid_4 rfl ?_
  refine dn_aload_n (pc := 5) r0 0 dX9_finishGrid_5 rfl ?_
  refine dn_getR (pc := 6) r0 lRX9_9 dX9_finishGrid_6 (fun v2 => ?_)
  refine dn_iconst (pc := 9) (v := 4) dX9_finishGrid_9 rfl ?_
  refine dn_iald (pc := 10) v2 dX9_finishGrid_10 (fun v3 => ?_)
  refine dn_iast (pc := 11) v1 dX9_finishGrid_11 ?_
  refine dn_iconst (pc := 12) (v := 0) dX9_finishGrid_12 rfl ?_
  refine dn_istore_n (pc := 13) dX9_finishGrid_13 (Nat.le_of_ble_eq_true rfl) (dnKp_nb 1 rfl rfl rfl (dnKp_of (lv2 := [(0, dnV b r0)]) [0] rfl rfl)) ?_
  refine dn_assoc ?_
  refine dn_lv [2, 1, 0] (lv2 := (fun s => [(0, dnV b r0), (1, .int p1), (2, .int s)]) 0) rfl ?_
  refine dn_loopE (pc := 14) (body := fX9_finishGrid_b14 r0 p1) 57 (fun s => [(0, dnV b r0), (1, .int p1), (2, .int s)]) (fun q => [(0, dnV b r0), (1, .int p1)]) (fun s14 K14 E14 hK14 hE14 => ?_) (fun q14 => ?_) 1000 0
  · unfold fX9_finishGrid_b14
    refine dn_iload_n (pc := 14) 2 dX9_finishGrid_14 rfl ?_
    refine dn_bipush (pc := 15) (v := 6) dX9_finishGrid_15 rfl ?_
    refine dn_icmp_ge (pc := 17) 57 dX9_finishGrid_17 rfl (fun _ => ?_) (fun _ => ?_)
    · refine dn_leaf ?_
      exact dn_lv [0, 1] rfl (hE14 ())
    · refine dn_aload_n (pc := 20) r0 0 dX9_finishGrid_20 rfl ?_
      refine dn_getR (pc := 21) r0 lRX9_15 dX9_finishGrid_21 (fun v4 => ?_)
      refine dn_iload_n (pc := 24) 1 dX9_finishGrid_24 rfl ?_
      refine dn_bipush (pc := 25) (v := 6) dX9_finishGrid_25 rfl ?_
      refine dn_imul (pc := 27) dX9_finishGrid_27 ?_
      refine dn_iload_n (pc := 28) 2 dX9_finishGrid_28 rfl ?_
      refine dn_iadd (pc := 29) dX9_finishGrid_29 ?_
      refine dn_aload_n (pc := 30) r0 0 dX9_finishGrid_30 rfl ?_
      refine dn_getR (pc := 31) r0 lRX9_15 dX9_finishGrid_31 (fun v5 => ?_)
      refine dn_bipush (pc := 34) (v := 24) dX9_finishGrid_34 rfl ?_
      refine dn_iload_n (pc := 36) 2 dX9_finishGrid_36 rfl ?_
      refine dn_iadd (pc := 37) dX9_finishGrid_37 ?_
      refine dn_iald (pc := 38) v5 dX9_finishGrid_38 (fun v6 => ?_)
      refine dn_iast (pc := 39) v4 dX9_finishGrid_39 ?_
      refine dn_aload_n (pc := 40) r0 0 dX9_finishGrid_40 rfl ?_
      refine dn_getR (pc := 41) r0 lRX9_15 dX9_finishGrid_41 (fun v7 => ?_)
      refine dn_bipush (pc := 44) (v := 24) dX9_finishGrid_44 rfl ?_
      refine dn_iload_n (pc := 46) 2 dX9_finishGrid_46 rfl ?_
      refine dn_iadd (pc := 47) dX9_finishGrid_47 ?_
      refine dn_bipush (pc := 48) (v := -14) dX9_finishGrid_48 rfl ?_
      refine dn_iast (pc := 50) v7 dX9_finishGrid_50 ?_
      refine dn_iinc (pc := 51) (s14 + 1) 2 dX9_finishGrid_51 rfl rfl (Nat.le_of_ble_eq_true rfl) (dnKp_nb 1 rfl rfl rfl (dnKp_of (lv2 := [(0, dnV b r0)]) [0] rfl rfl)) ?_
      refine dn_goto (pc := 54) 14 dX9_finishGrid_54 rfl ?_
      refine dn_leaf ?_
      exact dn_lv [2, 1, 0] rfl (hK14 (s14 + 1))
  · refine dn_aload_n (pc := 57) r0 0 dX9_finishGrid_57 rfl ?_
    refine dn_getR (pc := 58) r0 lRX9_9 dX9_finishGrid_58 (fun v8 => ?_)
    refine dn_iload_n (pc := 61) 1 dX9_finishGrid_61 rfl ?_
    refine dn_iald (pc := 62) v8 dX9_finishGrid_62 (fun v9 => ?_)
    exact dn_ret (Nat.le_of_ble_eq_true rfl) (Nat.le_of_ble_eq_true rfl) rfl dX9_finishGrid_63
abbrev rmX5_begin : Room := { frames := 1, cells := 0, slots := 0, locals := 24 }
def fX5_begin_j26 (l0 : Option Nat) (s0 : Option Nat) (s1 : Int32) : dnM Unit :=
  dnB (fJ7_fill_53178 s0 s1) fun _ =>
  dnB (dnGR l0 4 4) fun v2 =>
  dnB (fJ7_fill_d0a16 v2 0) fun _ =>
  dnB (dnGR l0 4 5) fun v4 =>
  dnB (fJ7_fill_7f8df v4 FP.dconst0) fun _ =>
  dnP ()
def fX5_begin (r0 : Option Nat) (p1 : Int32) (p2 : Int32) : dnM Unit :=
  dnB (dnPI r0 4 1 p1) fun _ =>
  dnB (dnPI r0 4 2 p2) fun _ =>
  dnB (dnGR r0 4 3) fun v6 =>
  if 8 ≤ p1 then
  (fX5_begin_j26 r0 v6 11)
  else
  (fX5_begin_j26 r0 v6 p1)
abbrev jX5_begin (w : dnWd) (x : dnX) (b : Nat) := dnD w x b (fun _ => True) cX5_begin RX5 3 rmX5_begin "begin" eU
set_option maxHeartbeats 4000000 in
set_option maxRecDepth 100000 in
theorem mX5_begin (w : dnWd) (x : dnX) (b : Nat) (r0 : Option Nat) (p1 : Int32) (p2 : Int32) : dnMt w x b yX5_begin cX5_begin 3 none rmX5_begin eU [dnV b r0, .int p1, .int p2] (fX5_begin r0 p1 p2) := by
  have hlv : lv_args 0 [dnV b r0, .int p1, .int p2] = [(0, dnV b r0), (1, .int p1), (2, .int p2)] := by cases r0 <;> rfl
  refine dn_mt (by decide +kernel) roU (by cases r0 <;> exact (Nat.le_of_ble_eq_true rfl)) ?_
  rw [hlv]
  refine dn_top ?_
  show jX5_begin w x b 0 0 0 _ [] (dnB _ dnP)
  unfold fX5_begin
  have hj26 : ∀ (l0 : Option Nat) (s0 : Option Nat) (s1 : Int32), jX5_begin w x b 26 0 0 [(0, dnV b l0)] [.int s1, dnV b s0] (dnB (fX5_begin_j26 l0 s0 s1) dnP) := by
    intro l0 s0 s1
    unfold fX5_begin_j26
    refine dn_callS0U (pc := 26) [dnV b s0, .int s1]  kRX5_33 (mJ7_fill_53178 w x b s0 s1) rfl rfl (Nat.le_of_ble_eq_true rfl) ⟨(Nat.le_of_ble_eq_true rfl), (Nat.le_of_ble_eq_true rfl)⟩ ⟨rfl, rfl, (Nat.le_of_ble_eq_true rfl), (Nat.le_of_ble_eq_true rfl)⟩ dX5_begin_26 (fun _ => ?_)
    refine dn_aload_n (pc := 29) l0 0 dX5_begin_29 rfl ?_
    refine dn_getR (pc := 30) l0 lRX5_22 dX5_begin_30 (fun v2 => ?_)
    refine dn_lconst (pc := 33) (v := 0) dX5_begin_33 rfl ?_
    refine dn_callS0U (pc := 34) [dnV b v2, .long 0]  kRX5_39 (mJ7_fill_d0a16 w x b v2 0) rfl rfl (Nat.le_of_ble_eq_true rfl) ⟨(Nat.le_of_ble_eq_true rfl), (Nat.le_of_ble_eq_true rfl)⟩ ⟨rfl, rfl, (Nat.le_of_ble_eq_true rfl), (Nat.le_of_ble_eq_true rfl)⟩ dX5_begin_34 (fun _ => ?_)
    refine dn_aload_n (pc := 37) l0 0 dX5_begin_37 rfl ?_
    refine dn_getR (pc := 38) l0 lRX5_26 dX5_begin_38 (fun v4 => ?_)
    refine dn_dconst0 (pc := 41) dX5_begin_41 ?_
    refine dn_callS0U (pc := 42) [dnV b v4, .double FP.dconst0]  kRX5_42 (mJ7_fill_7f8df w x b v4 FP.dconst0) rfl rfl (Nat.le_of_ble_eq_true rfl) ⟨(Nat.le_of_ble_eq_true rfl), (Nat.le_of_ble_eq_true rfl)⟩ ⟨rfl, rfl, (Nat.le_of_ble_eq_true rfl), (Nat.le_of_ble_eq_true rfl)⟩ dX5_begin_42 (fun _ => ?_)
    exact dn_ret (Nat.le_of_ble_eq_true rfl) (Nat.le_of_ble_eq_true rfl) rfl dX5_begin_45
  refine dn_aload_n (pc := 0) r0 0 dX5_begin_0 rfl ?_
  refine dn_iload_n (pc := 1) 1 dX5_begin_1 rfl ?_
  refine dn_putI (pc := 2) r0 lRX5_9 dX5_begin_2 ?_
  refine dn_aload_n (pc := 5) r0 0 dX5_begin_5 rfl ?_
  refine dn_iload_n (pc := 6) 2 dX5_begin_6 rfl ?_
  refine dn_putI (pc := 7) r0 lRX5_15 dX5_begin_7 ?_
  refine dn_aload_n (pc := 10) r0 0 dX5_begin_10 rfl ?_
  refine dn_getR (pc := 11) r0 lRX5_18 dX5_begin_11 (fun v6 => ?_)
  refine dn_iload_n (pc := 14) 1 dX5_begin_14 rfl ?_
  refine dn_bipush (pc := 15) (v := 8) dX5_begin_15 rfl ?_
  refine dn_icmp_ge (pc := 17) 24 dX5_begin_17 rfl (fun _ => ?_) (fun _ => ?_)
  · refine dn_bipush (pc := 24) (v := 11) dX5_begin_24 rfl ?_
    exact dn_lv [0] rfl (hj26 r0 v6 11)
  · refine dn_iload_n (pc := 20) 1 dX5_begin_20 rfl ?_
    refine dn_goto (pc := 21) 26 dX5_begin_21 rfl ?_
    exact dn_lv [0] rfl (hj26 r0 v6 p1)
abbrev rmX9_firstHolder : Room := { frames := 0, cells := 0, slots := 0, locals := 0 }
def fX9_firstHolder_b2 (c0 : Option Nat) (c1 : Int32) (s2 : Int32) : dnM ((Int32) ⊕ ((Unit) ⊕ Int32)) :=
  dnB (dnGR c0 7 1) fun v1 =>
  dnB (dnLn v1 100) fun v2 =>
  if v2 ≤ s2 then
  (dnP (.inr (.inl ())))
  else
  (dnB (dnGR c0 7 1) fun v3 =>
  dnB (dnAI v3 100 s2) fun v4 =>
  if ¬ v4 = c1 then
  (dnP (.inl (s2 + 1)))
  else
  (dnP (.inr (.inr s2))))
def fX9_firstHolder (r0 : Option Nat) (p1 : Int32) : dnM Int32 :=
  dnB (dnIt 1000 (fX9_firstHolder_b2 r0 p1) 0) fun q_ => q_.elim (fun q2 => dnP (-9)) (fun v_ => dnP v_)
abbrev jX9_firstHolder (w : dnWd) (x : dnX) (b : Nat) := dnD w x b (fun _ => True) cX9_firstHolder RX9 3 rmX9_firstHolder "firstHolder" eI
set_option maxHeartbeats 4000000 in
set_option maxRecDepth 100000 in
theorem mX9_firstHolder (w : dnWd) (x : dnX) (b : Nat) (r0 : Option Nat) (p1 : Int32) : dnMt w x b yX9_firstHolder cX9_firstHolder 3 (some .int) rmX9_firstHolder eI [dnV b r0, .int p1] (fX9_firstHolder r0 p1) := by
  have hlv : lv_args 0 [dnV b r0, .int p1] = [(0, dnV b r0), (1, .int p1)] := by cases r0 <;> rfl
  refine dn_mt (by decide +kernel) roI (by cases r0 <;> exact (Nat.le_of_ble_eq_true rfl)) ?_
  rw [hlv]
  refine dn_top ?_
  show jX9_firstHolder w x b 0 0 0 _ [] (dnB _ dnP)
  unfold fX9_firstHolder
  refine dn_iconst (pc := 0) (v := 0) dX9_firstHolder_0 rfl ?_
  refine dn_istore_n (pc := 1) dX9_firstHolder_1 (Nat.le_of_ble_eq_true rfl) (dnKp_nb 1 rfl rfl rfl (dnKp_of (lv2 := [(0, dnV b r0)]) [0] rfl rfl)) ?_
  refine dn_assoc ?_
  refine dn_lv [2, 1, 0] (lv2 := (fun s => [(0, dnV b r0), (1, .int p1), (2, .int s)]) 0) rfl ?_
  refine dn_loopR (pc := 2) (body := fX9_firstHolder_b2 r0 p1) 29 (fun s => [(0, dnV b r0), (1, .int p1), (2, .int s)]) (fun q => []) (fun s2 K2 E2 hK2 hE2 hR2 => ?_) (dn_rt (Nat.le_of_ble_eq_true rfl) (Nat.le_of_ble_eq_true rfl) (fun _ => rfl)) (fun q2 => ?_) 1000 0
  · unfold fX9_firstHolder_b2
    refine dn_iload_n (pc := 2) 2 dX9_firstHolder_2 rfl ?_
    refine dn_aload_n (pc := 3) r0 0 dX9_firstHolder_3 rfl ?_
    refine dn_getR (pc := 4) r0 lRX9_15 dX9_firstHolder_4 (fun v1 => ?_)
    refine dn_alen (pc := 7) 0 v1 (by decide) (fun _ => rfl) dX9_firstHolder_7 (fun v2 => ?_)
    refine dn_icmp_ge (pc := 8) 29 dX9_firstHolder_8 rfl (fun _ => ?_) (fun _ => ?_)
    · refine dn_leaf ?_
      exact dn_lv [] rfl (hE2 ())
    · refine dn_aload_n (pc := 11) r0 0 dX9_firstHolder_11 rfl ?_
      refine dn_getR (pc := 12) r0 lRX9_15 dX9_firstHolder_12 (fun v3 => ?_)
      refine dn_iload_n (pc := 15) 2 dX9_firstHolder_15 rfl ?_
      refine dn_iald (pc := 16) v3 dX9_firstHolder_16 (fun v4 => ?_)
      refine dn_iload_n (pc := 17) 1 dX9_firstHolder_17 rfl ?_
      refine dn_icmp_ne (pc := 18) 23 dX9_firstHolder_18 rfl (fun _ => ?_) (fun _ => ?_)
      · refine dn_iinc (pc := 23) (s2 + 1) 2 dX9_firstHolder_23 rfl rfl (Nat.le_of_ble_eq_true rfl) (dnKp_nb 1 rfl rfl rfl (dnKp_of (lv2 := [(0, dnV b r0)]) [0] rfl rfl)) ?_
        refine dn_goto (pc := 26) 2 dX9_firstHolder_26 rfl ?_
        refine dn_leaf ?_
        exact dn_lv [2, 1, 0] rfl (hK2 (s2 + 1))
      · refine dn_iload_n (pc := 21) 2 dX9_firstHolder_21 rfl ?_
        refine dn_leaf ?_
        exact hR2 s2 _ _ _ rfl dX9_firstHolder_22
  · dsimp only [Sum.elim_inl]
    refine dn_bipush (pc := 29) (v := -9) dX9_firstHolder_29 rfl ?_
    exact dn_ret (Nat.le_of_ble_eq_true rfl) (Nat.le_of_ble_eq_true rfl) rfl dX9_firstHolder_31
abbrev rmX9_freshRow : Room := { frames := 2, cells := 0, slots := 0, locals := 46 }
def fX9_freshRow_j24 (l0 : Option Nat) (l1 : Int32) (l2 : Int32) (l3 : Int32) : dnM (Option Nat) :=
  dnB (dnGR l0 7 2) fun v1 =>
  dnB (dnAR v1 104 l3) fun v2 =>
  dnB (dnCv v2 4 (fX5_begin v2 l1 l2)) fun _ =>
  dnB (dnGR l0 7 2) fun v4 =>
  dnB (dnAR v4 104 l3) fun v5 =>
  dnP v5
def fX9_freshRow_b2 (c0 : Option Nat) (c1 : Int32) (c2 : Int32) (s2 : Int32) : dnM ((Int32) ⊕ (Int32)) :=
  if 30 ≤ s2 then
  (dnP (.inr s2))
  else
  (dnB (dnCv c0 7 (fX9_firstHolder c0 s2)) fun v6 =>
  if v6 = (-9) then
  (dnP (.inr s2))
  else
  (dnP (.inl (s2 + 1))))
def fX9_freshRow (r0 : Option Nat) (p1 : Int32) (p2 : Int32) : dnM (Option Nat) :=
  dnB (dnIt 1000 (fX9_freshRow_b2 r0 p1 p2) 0) fun q2 =>
  fX9_freshRow_j24 r0 p1 p2 q2
abbrev jX9_freshRow (w : dnWd) (x : dnX) (b : Nat) := dnD w x b (fun _ => True) cX9_freshRow RX9 4 rmX9_freshRow "freshRow" (eR b)
set_option maxHeartbeats 4000000 in
set_option maxRecDepth 100000 in
theorem mX9_freshRow (w : dnWd) (x : dnX) (b : Nat) (r0 : Option Nat) (p1 : Int32) (p2 : Int32) : dnMt w x b yX9_freshRow cX9_freshRow 4 (some (.object "KindGrids$Row")) rmX9_freshRow (eR b) [dnV b r0, .int p1, .int p2] (fX9_freshRow r0 p1 p2) := by
  have hlv : lv_args 0 [dnV b r0, .int p1, .int p2] = [(0, dnV b r0), (1, .int p1), (2, .int p2)] := by cases r0 <;> rfl
  refine dn_mt (by decide +kernel) roR (by cases r0 <;> exact (Nat.le_of_ble_eq_true rfl)) ?_
  rw [hlv]
  refine dn_top ?_
  show jX9_freshRow w x b 0 0 0 _ [] (dnB _ dnP)
  unfold fX9_freshRow
  have hj24 : ∀ (l0 : Option Nat) (l1 : Int32) (l2 : Int32) (l3 : Int32), jX9_freshRow w x b 24 0 0 [(0, dnV b l0), (1, .int l1), (2, .int l2), (3, .int l3)] [] (dnB (fX9_freshRow_j24 l0 l1 l2 l3) dnP) := by
    intro l0 l1 l2 l3
    unfold fX9_freshRow_j24
    refine dn_aload_n (pc := 24) l0 0 dX9_freshRow_24 rfl ?_
    refine dn_getR (pc := 25) l0 lRX9_20 dX9_freshRow_25 (fun v1 => ?_)
    refine dn_iload_n (pc := 28) 3 dX9_freshRow_28 rfl ?_
    refine dn_aaldW (pc := 29) v1 dX9_freshRow_29 (fun v2 => ?_)
    refine dn_iload_n (pc := 30) 1 dX9_freshRow_30 rfl ?_
    refine dn_iload_n (pc := 31) 2 dX9_freshRow_31 rfl ?_
    refine dn_callV0U (pc := 32) [.int l1, .int l2] v2 kRX9_62 (mX5_begin w x b v2 l1 l2) rfl rfl (Nat.le_of_ble_eq_true rfl) ⟨(Nat.le_of_ble_eq_true rfl), (Nat.le_of_ble_eq_true rfl)⟩ ⟨rfl, rfl, (Nat.le_of_ble_eq_true rfl), (Nat.le_of_ble_eq_true rfl)⟩ dX9_freshRow_32 (fun _ => ?_)
    refine dn_aload_n (pc := 35) l0 0 dX9_freshRow_35 rfl ?_
    refine dn_getR (pc := 36) l0 lRX9_20 dX9_freshRow_36 (fun v4 => ?_)
    refine dn_iload_n (pc := 39) 3 dX9_freshRow_39 rfl ?_
    refine dn_aaldW (pc := 40) v4 dX9_freshRow_40 (fun v5 => ?_)
    exact dn_ret (Nat.le_of_ble_eq_true rfl) (Nat.le_of_ble_eq_true rfl) rfl (dn_raR dX9_freshRow_41)
  refine dn_iconst (pc := 0) (v := 0) dX9_freshRow_0 rfl ?_
  refine dn_istore_n (pc := 1) dX9_freshRow_1 (Nat.le_of_ble_eq_true rfl) (dnKp_nb 2 rfl rfl rfl (dnKp_of (lv2 := [(0, dnV b r0), (1, .int p1)]) [0, 1] rfl rfl)) ?_
  refine dn_assoc ?_
  refine dn_lv [2, 3, 1, 0] (lv2 := (fun s => [(0, dnV b r0), (1, .int p1), (2, .int p2), (3, .int s)]) 0) rfl ?_
  refine dn_loopE (pc := 2) (body := fX9_freshRow_b2 r0 p1 p2) 24 (fun s => [(0, dnV b r0), (1, .int p1), (2, .int p2), (3, .int s)]) (fun q => [(0, dnV b r0), (1, .int p1), (2, .int p2), (3, .int q)]) (fun s2 K2 E2 hK2 hE2 => ?_) (fun q2 => ?_) 1000 0
  · unfold fX9_freshRow_b2
    refine dn_iload_n (pc := 2) 3 dX9_freshRow_2 rfl ?_
    refine dn_bipush (pc := 3) (v := 30) dX9_freshRow_3 rfl ?_
    refine dn_icmp_ge (pc := 5) 24 dX9_freshRow_5 rfl (fun _ => ?_) (fun _ => ?_)
    · refine dn_leaf ?_
      exact dn_lv [0, 1, 2, 3] rfl (hE2 s2)
    · refine dn_aload_n (pc := 8) r0 0 dX9_freshRow_8 rfl ?_
      refine dn_iload_n (pc := 9) 3 dX9_freshRow_9 rfl ?_
      refine dn_callV0I (pc := 10) [.int s2] r0 kRX9_59 (mX9_firstHolder w x b r0 s2) rfl rfl (Nat.le_of_ble_eq_true rfl) ⟨(Nat.le_of_ble_eq_true rfl), (Nat.le_of_ble_eq_true rfl)⟩ ⟨rfl, rfl, (Nat.le_of_ble_eq_true rfl), (Nat.le_of_ble_eq_true rfl)⟩ dX9_freshRow_10 (fun v6 => ?_)
      refine dn_bipush (pc := 13) (v := -9) dX9_freshRow_13 rfl ?_
      refine dn_icmp_eq (pc := 15) 24 dX9_freshRow_15 rfl (fun _ => ?_) (fun _ => ?_)
      · refine dn_leaf ?_
        exact dn_lv [0, 1, 2, 3] rfl (hE2 s2)
      · refine dn_iinc (pc := 18) (s2 + 1) 3 dX9_freshRow_18 rfl rfl (Nat.le_of_ble_eq_true rfl) (dnKp_nb 2 rfl rfl rfl (dnKp_of (lv2 := [(0, dnV b r0), (1, .int p1)]) [0, 1] rfl rfl)) ?_
        refine dn_goto (pc := 21) 2 dX9_freshRow_21 rfl ?_
        refine dn_leaf ?_
        exact dn_lv [2, 3, 1, 0] rfl (hK2 (s2 + 1))
  · exact dn_lv [0, 1, 2, 3] rfl (hj24 r0 p1 p2 q2)
abbrev rmX9_place : Room := { frames := 0, cells := 0, slots := 0, locals := 0 }
def fX9_place (r0 : Option Nat) (p1 : Int32) (p2 : Int32) (r3 : Option Nat) : dnM Unit :=
  dnB (dnGR r0 7 1) fun v1 =>
  dnB (dnGI r3 4 0) fun v2 =>
  dnB (dnTI v1 100 ((p1 * 6) + p2) v2) fun _ =>
  dnP ()
abbrev jX9_place (w : dnWd) (x : dnX) (b : Nat) := dnD w x b (fun _ => True) cX9_place RX9 4 rmX9_place "place" eU
set_option maxHeartbeats 4000000 in
set_option maxRecDepth 100000 in
theorem mX9_place (w : dnWd) (x : dnX) (b : Nat) (r0 : Option Nat) (p1 : Int32) (p2 : Int32) (r3 : Option Nat) : dnMt w x b yX9_place cX9_place 4 none rmX9_place eU [dnV b r0, .int p1, .int p2, dnV b r3] (fX9_place r0 p1 p2 r3) := by
  have hlv : lv_args 0 [dnV b r0, .int p1, .int p2, dnV b r3] = [(0, dnV b r0), (1, .int p1), (2, .int p2), (3, dnV b r3)] := by cases r0 <;> cases r3 <;> rfl
  refine dn_mt (by decide +kernel) roU (by cases r0 <;> cases r3 <;> exact (Nat.le_of_ble_eq_true rfl)) ?_
  rw [hlv]
  refine dn_top ?_
  show jX9_place w x b 0 0 0 _ [] (dnB _ dnP)
  unfold fX9_place
  refine dn_aload_n (pc := 0) r0 0 dX9_place_0 rfl ?_
  refine dn_getR (pc := 1) r0 lRX9_15 dX9_place_1 (fun v1 => ?_)
  refine dn_iload_n (pc := 4) 1 dX9_place_4 rfl ?_
  refine dn_bipush (pc := 5) (v := 6) dX9_place_5 rfl ?_
  refine dn_imul (pc := 7) dX9_place_7 ?_
  refine dn_iload_n (pc := 8) 2 dX9_place_8 rfl ?_
  refine dn_iadd (pc := 9) dX9_place_9 ?_
  refine dn_aload_n (pc := 10) r3 3 dX9_place_10 rfl ?_
  refine dn_getI (pc := 11) r3 lRX9_66 dX9_place_11 (fun v2 => ?_)
  refine dn_iast (pc := 14) v1 dX9_place_14 ?_
  exact dn_ret (Nat.le_of_ble_eq_true rfl) (Nat.le_of_ble_eq_true rfl) rfl dX9_place_15
