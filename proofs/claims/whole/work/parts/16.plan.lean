abbrev rmX3_wordOf : Room := { frames := 0, cells := 0, slots := 0, locals := 0 }
def fX3_wordOf (r0 : Option Nat) (p1 : Int32) : dnM Nat :=
  dnB (dnGR r0 2 2) fun v1 =>
  dnB (dnAI v1 100 p1) fun v2 =>
  dnB (dnXW v2) fun v3 =>
  dnP v3
abbrev jX3_wordOf (w : dnWd) (x : dnX) (b : Nat) := dnD w x b (fun _ => True) cX3_wordOf RX3 2 rmX3_wordOf "wordOf" (eS x)
set_option maxHeartbeats 4000000 in
set_option maxRecDepth 100000 in
theorem mX3_wordOf (w : dnWd) (x : dnX) (b : Nat) (r0 : Option Nat) (p1 : Int32) : dnMt w x b yX3_wordOf cX3_wordOf 2 (some (.object "KindGrids$Step")) rmX3_wordOf (eS x) [dnV b r0, .int p1] (fX3_wordOf r0 p1) := by
  have hlv : lv_args 0 [dnV b r0, .int p1] = [(0, dnV b r0), (1, .int p1)] := by cases r0 <;> rfl
  refine dn_mt (by decide +kernel) roS (by cases r0 <;> exact (Nat.le_of_ble_eq_true rfl)) ?_
  rw [hlv]
  refine dn_top ?_
  show jX3_wordOf w x b 0 0 0 _ [] (dnB _ dnP)
  unfold fX3_wordOf
  refine dn_getsN (pc := 0) dnX_wds kf_wds dX3_wordOf_0 ?_
  refine dn_aload_n (pc := 3) r0 0 dX3_wordOf_3 rfl ?_
  refine dn_getR (pc := 4) r0 lRX3_19 dX3_wordOf_4 (fun v1 => ?_)
  refine dn_iload_n (pc := 7) 1 dX3_wordOf_7 rfl ?_
  refine dn_iald (pc := 8) v1 dX3_wordOf_8 (fun v2 => ?_)
  refine dn_aaldX (pc := 9) dX3_wordOf_9 (fun v3 => ?_)
  exact dn_ret (Nat.le_of_ble_eq_true rfl) (Nat.le_of_ble_eq_true rfl) rfl dX3_wordOf_10
abbrev rmX3_standsAt : Room := { frames := 4, cells := 0, slots := 0, locals := 85 }
def fX3_standsAt_b2 (c0 : Option Nat) (c1 : Nat) (c2 : Int32) (s2 : Int32) : dnM ((Int32) ⊕ ((Unit) ⊕ Bool)) :=
  dnB (dnSk c1) fun _ =>
  if (dnLen c1) ≤ s2 then
  (dnP (.inr (.inl ())))
  else
  (dnB (dnGR c0 2 0) fun v1 =>
  dnB (dnAI v1 101 (c2 + s2)) fun v2 =>
  dnB (dnSc c1 s2) fun _ =>
  if v2 = (dnChr c1 s2) then
  (dnP (.inl (s2 + 1)))
  else
  (dnP (.inr (.inr false))))
def fX3_standsAt (r0 : Option Nat) (p1 : Nat) (p2 : Int32) : dnM Bool :=
  dnB (dnIt 1000 (fX3_standsAt_b2 r0 p1 p2) 0) fun q_ => q_.elim (fun q2 => dnP true) (fun v_ => dnP v_)
abbrev jX3_standsAt (w : dnWd) (x : dnX) (b : Nat) := dnD w x b (fun _ => True) cX3_standsAt RX3 4 rmX3_standsAt "standsAt" eZ
set_option maxHeartbeats 4000000 in
set_option maxRecDepth 100000 in
theorem mX3_standsAt (w : dnWd) (x : dnX) (b : Nat) (r0 : Option Nat) (p1 : Nat) (p2 : Int32) : dnMt w x b yX3_standsAt cX3_standsAt 4 (some .boolean) rmX3_standsAt eZ [dnV b r0, .ref (dnAK x p1), .int p2] (fX3_standsAt r0 p1 p2) := by
  have hlv : lv_args 0 [dnV b r0, .ref (dnAK x p1), .int p2] = [(0, dnV b r0), (1, .ref (dnAK x p1)), (2, .int p2)] := by cases r0 <;> rfl
  refine dn_mt (by decide +kernel) roZ (by cases r0 <;> exact (Nat.le_of_ble_eq_true rfl)) ?_
  rw [hlv]
  refine dn_top ?_
  show jX3_standsAt w x b 0 0 0 _ [] (dnB _ dnP)
  unfold fX3_standsAt
  refine dn_iconst (pc := 0) (v := 0) dX3_standsAt_0 rfl ?_
  refine dn_istore_n (pc := 1) dX3_standsAt_1 (Nat.le_of_ble_eq_true rfl) (dnKp_nb 2 rfl rfl rfl (dnKp_of (lv2 := [(0, dnV b r0), (1, .ref (dnAK x p1))]) [0, 1] rfl rfl)) ?_
  refine dn_assoc ?_
  refine dn_lv [2, 3, 1, 0] (lv2 := (fun s => [(0, dnV b r0), (1, .ref (dnAK x p1)), (2, .int p2), (3, .int s)]) 0) rfl ?_
  refine dn_loopR (pc := 2) (body := fX3_standsAt_b2 r0 p1 p2) 34 (fun s => [(0, dnV b r0), (1, .ref (dnAK x p1)), (2, .int p2), (3, .int s)]) (fun q => []) (fun s2 K2 E2 hK2 hE2 hR2 => ?_) (dn_rt (Nat.le_of_ble_eq_true rfl) (Nat.le_of_ble_eq_true rfl) (fun _ => rfl)) (fun q2 => ?_) 1000 0
  · unfold fX3_standsAt_b2
    refine dn_iload_n (pc := 2) 3 dX3_standsAt_2 rfl ?_
    refine dn_aloadX_n (pc := 3) 1 dX3_standsAt_3 rfl ?_
    refine dn_callX (pc := 4) [] kt_len (mJ0_length_8abf5 w x b p1) (fun h v h2 e => dnX_rvS (dnSk_lt e)) rfl rfl (Nat.le_of_ble_eq_true rfl) ⟨(Nat.le_of_ble_eq_true rfl), (Nat.le_of_ble_eq_true rfl)⟩ ⟨rfl, rfl, (Nat.le_of_ble_eq_true rfl), (Nat.le_of_ble_eq_true rfl)⟩ dX3_standsAt_4 (fun _ => ?_)
    refine dn_icmp_ge (pc := 7) 34 dX3_standsAt_7 rfl (fun _ => ?_) (fun _ => ?_)
    · refine dn_leaf ?_
      exact dn_lv [] rfl (hE2 ())
    · refine dn_aload_n (pc := 10) r0 0 dX3_standsAt_10 rfl ?_
      refine dn_getR (pc := 11) r0 lRX3_9 dX3_standsAt_11 (fun v1 => ?_)
      refine dn_iload_n (pc := 14) 2 dX3_standsAt_14 rfl ?_
      refine dn_iload_n (pc := 15) 3 dX3_standsAt_15 rfl ?_
      refine dn_iadd (pc := 16) dX3_standsAt_16 ?_
      refine dn_cald (pc := 17) v1 dX3_standsAt_17 (fun v2 => ?_)
      refine dn_aloadX_n (pc := 18) 1 dX3_standsAt_18 rfl ?_
      refine dn_iload_n (pc := 19) 3 dX3_standsAt_19 rfl ?_
      refine dn_callX (pc := 20) [.int s2] kt_chr (mJ0_charAt_5068e w x b p1 s2) (fun h v h2 e => dnX_rvS (dnSc_lt e)) rfl rfl (Nat.le_of_ble_eq_true rfl) ⟨(Nat.le_of_ble_eq_true rfl), (Nat.le_of_ble_eq_true rfl)⟩ ⟨rfl, rfl, (Nat.le_of_ble_eq_true rfl), (Nat.le_of_ble_eq_true rfl)⟩ dX3_standsAt_20 (fun _ => ?_)
      refine dn_icmp_eq (pc := 23) 28 dX3_standsAt_23 rfl (fun _ => ?_) (fun _ => ?_)
      · refine dn_iinc (pc := 28) (s2 + 1) 3 dX3_standsAt_28 rfl rfl (Nat.le_of_ble_eq_true rfl) (dnKp_nb 2 rfl rfl rfl (dnKp_of (lv2 := [(0, dnV b r0), (1, .ref (dnAK x p1))]) [0, 1] rfl rfl)) ?_
        refine dn_goto (pc := 31) 2 dX3_standsAt_31 rfl ?_
        refine dn_leaf ?_
        exact dn_lv [2, 3, 1, 0] rfl (hK2 (s2 + 1))
      · refine dn_iconst (pc := 26) (v := 0) dX3_standsAt_26 rfl ?_
        refine dn_leaf ?_
        exact hR2 false _ _ _ rfl dX3_standsAt_27
  · dsimp only [Sum.elim_inl]
    refine dn_iconst (pc := 34) (v := 1) dX3_standsAt_34 rfl ?_
    exact dn_ret (Nat.le_of_ble_eq_true rfl) (Nat.le_of_ble_eq_true rfl) rfl dX3_standsAt_35
abbrev rmX3_wordAt : Room := { frames := 5, cells := 0, slots := 0, locals := 108 }
def fX3_wordAt_j51 (l0 : Option Nat) (l1 : Int32) (l2 : Int32) (l3 : Int32) : dnM ((Int32) ⊕ ((Unit) ⊕ Int32)) :=
  dnP (.inl (l3 + 1))
def fX3_wordAt_b10 (c0 : Option Nat) (c1 : Int32) (c2 : Int32) (s10 : Int32) : dnM ((Int32) ⊕ ((Unit) ⊕ Int32)) :=
  if (Int32.ofNat 14) ≤ s10 then
  (dnP (.inr (.inl ())))
  else
  (dnB (dnXW s10) fun v2 =>
  dnB (dnSk v2) fun _ =>
  dnB (dnSk v2) fun _ =>
  if ¬ (dnLen v2) = c2 then
  (fX3_wordAt_j51 c0 c1 c2 s10)
  else
  (dnB (dnXW s10) fun v3 =>
  dnB (dnSk v3) fun _ =>
  dnB (dnCv c0 2 (fX3_standsAt c0 v3 c1)) fun v4 =>
  if v4 = true then
  (dnP (.inr (.inr s10)))
  else
  (fX3_wordAt_j51 c0 c1 c2 s10)))
def fX3_wordAt (r0 : Option Nat) (p1 : Int32) : dnM Int32 :=
  dnB (dnCv r0 2 (fX3_endOfLetters r0 p1)) fun v1 =>
  dnB (dnIt 1000 (fX3_wordAt_b10 r0 p1 (v1 - p1)) 0) fun q_ => q_.elim (fun q10 => dnP (-9)) (fun v_ => dnP v_)
abbrev jX3_wordAt (w : dnWd) (x : dnX) (b : Nat) := dnD w x b (fun _ => True) cX3_wordAt RX3 4 rmX3_wordAt "wordAt" eI
set_option maxHeartbeats 4000000 in
set_option maxRecDepth 100000 in
theorem mX3_wordAt (w : dnWd) (x : dnX) (b : Nat) (r0 : Option Nat) (p1 : Int32) : dnMt w x b yX3_wordAt cX3_wordAt 4 (some .int) rmX3_wordAt eI [dnV b r0, .int p1] (fX3_wordAt r0 p1) := by
  have hlv : lv_args 0 [dnV b r0, .int p1] = [(0, dnV b r0), (1, .int p1)] := by cases r0 <;> rfl
  refine dn_mt (by decide +kernel) roI (by cases r0 <;> exact (Nat.le_of_ble_eq_true rfl)) ?_
  rw [hlv]
  refine dn_top ?_
  show jX3_wordAt w x b 0 0 0 _ [] (dnB _ dnP)
  unfold fX3_wordAt
  refine dn_aload_n (pc := 0) r0 0 dX3_wordAt_0 rfl ?_
  refine dn_iload_n (pc := 1) 1 dX3_wordAt_1 rfl ?_
  refine dn_callV0I (pc := 2) [.int p1] r0 kRX3_37 (mX3_endOfLetters w x b r0 p1) rfl rfl (Nat.le_of_ble_eq_true rfl) ⟨(Nat.le_of_ble_eq_true rfl), (Nat.le_of_ble_eq_true rfl)⟩ ⟨rfl, rfl, (Nat.le_of_ble_eq_true rfl), (Nat.le_of_ble_eq_true rfl)⟩ dX3_wordAt_2 (fun v1 => ?_)
  refine dn_iload_n (pc := 5) 1 dX3_wordAt_5 rfl ?_
  refine dn_isub (pc := 6) dX3_wordAt_6 ?_
  refine dn_istore_n (pc := 7) dX3_wordAt_7 (Nat.le_of_ble_eq_true rfl) (dnKp_nb 1 rfl rfl rfl (dnKp_of (lv2 := [(0, dnV b r0)]) [0] rfl rfl)) ?_
  refine dn_iconst (pc := 8) (v := 0) dX3_wordAt_8 rfl ?_
  refine dn_istore_n (pc := 9) dX3_wordAt_9 (Nat.le_of_ble_eq_true rfl) (dnKp_nb 0 rfl rfl rfl (dnKp_of (lv2 := [(1, .int p1), (0, dnV b r0)]) [1, 2] rfl rfl)) ?_
  refine dn_assoc ?_
  refine dn_lv [3, 2, 1, 0] (lv2 := (fun s => [(0, dnV b r0), (1, .int p1), (2, .int (v1 - p1)), (3, .int s)]) 0) rfl ?_
  refine dn_loopR (pc := 10) (body := fX3_wordAt_b10 r0 p1 (v1 - p1)) 57 (fun s => [(0, dnV b r0), (1, .int p1), (2, .int (v1 - p1)), (3, .int s)]) (fun q => []) (fun s10 K10 E10 hK10 hE10 hR10 => ?_) (dn_rt (Nat.le_of_ble_eq_true rfl) (Nat.le_of_ble_eq_true rfl) (fun _ => rfl)) (fun q10 => ?_) 1000 0
  · unfold fX3_wordAt_b10
    have hj51 : ∀ (l3 : Int32), jX3_wordAt w x b 51 0 0 [(0, dnV b r0), (1, .int p1), (2, .int (v1 - p1)), (3, .int l3)] [] (dnB (fX3_wordAt_j51 r0 p1 (v1 - p1) l3) (dnKo K10 E10)) := by
      intro l3
      unfold fX3_wordAt_j51
      refine dn_iinc (pc := 51) (l3 + 1) 3 dX3_wordAt_51 rfl rfl (Nat.le_of_ble_eq_true rfl) (dnKp_nb 2 rfl rfl rfl (dnKp_of (lv2 := [(0, dnV b r0), (1, .int p1)]) [0, 1] rfl rfl)) ?_
      refine dn_goto (pc := 54) 10 dX3_wordAt_54 rfl ?_
      refine dn_leaf ?_
      exact dn_lv [2, 3, 1, 0] rfl (hK10 (l3 + 1))
    refine dn_iload_n (pc := 10) 3 dX3_wordAt_10 rfl ?_
    refine dn_getsN (pc := 11) dnX_wds kf_wds dX3_wordAt_11 ?_
    refine dn_tlen (pc := 14) dnX_wdt dX3_wordAt_14 ?_
    refine dn_icmp_ge (pc := 15) 57 dX3_wordAt_15 rfl (fun _ => ?_) (fun _ => ?_)
    · refine dn_leaf ?_
      exact dn_lv [] rfl (hE10 ())
    · refine dn_getsN (pc := 18) dnX_wds kf_wds dX3_wordAt_18 ?_
      refine dn_iload_n (pc := 21) 3 dX3_wordAt_21 rfl ?_
      refine dn_aaldX (pc := 22) dX3_wordAt_22 (fun v2 => ?_)
      refine dn_Sk (fun hk_ => ?_)
      refine dn_getOF (pc := 23) (dnX_wrd hk_) kf_wrd dX3_wordAt_23 ?_
      refine dn_callX (pc := 26) [] kt_len (mJ0_length_8abf5 w x b v2) (fun h v h2 e => dnX_rvS (dnSk_lt e)) rfl rfl (Nat.le_of_ble_eq_true rfl) ⟨(Nat.le_of_ble_eq_true rfl), (Nat.le_of_ble_eq_true rfl)⟩ ⟨rfl, rfl, (Nat.le_of_ble_eq_true rfl), (Nat.le_of_ble_eq_true rfl)⟩ dX3_wordAt_26 (fun _ => ?_)
      refine dn_iload_n (pc := 29) 2 dX3_wordAt_29 rfl ?_
      refine dn_icmp_ne (pc := 30) 51 dX3_wordAt_30 rfl (fun _ => ?_) (fun _ => ?_)
      · exact dn_lv [0, 1, 2, 3] rfl (hj51 s10)
      · refine dn_aload_n (pc := 33) r0 0 dX3_wordAt_33 rfl ?_
        refine dn_getsN (pc := 34) dnX_wds kf_wds dX3_wordAt_34 ?_
        refine dn_iload_n (pc := 37) 3 dX3_wordAt_37 rfl ?_
        refine dn_aaldX (pc := 38) dX3_wordAt_38 (fun v3 => ?_)
        refine dn_Sk (fun hk_ => ?_)
        refine dn_getOF (pc := 39) (dnX_wrd hk_) kf_wrd dX3_wordAt_39 ?_
        refine dn_iload_n (pc := 42) 1 dX3_wordAt_42 rfl ?_
        refine dn_callV0Z (pc := 43) [.ref (dnAK x v3), .int p1] r0 kRX3_60 (mX3_standsAt w x b r0 v3 p1) rfl rfl (Nat.le_of_ble_eq_true rfl) ⟨(Nat.le_of_ble_eq_true rfl), (Nat.le_of_ble_eq_true rfl)⟩ ⟨rfl, rfl, (Nat.le_of_ble_eq_true rfl), (Nat.le_of_ble_eq_true rfl)⟩ dX3_wordAt_43 (fun v4 => ?_)
        refine dn_ifz_eq (pc := 46) 51 dX3_wordAt_46 rfl (fun _ => ?_) (fun _ => ?_)
        · refine dn_iload_n (pc := 49) 3 dX3_wordAt_49 rfl ?_
          refine dn_leaf ?_
          exact hR10 s10 _ _ _ rfl dX3_wordAt_50
        · exact dn_lv [0, 1, 2, 3] rfl (hj51 s10)
  · dsimp only [Sum.elim_inl]
    refine dn_bipush (pc := 57) (v := -9) dX3_wordAt_57 rfl ?_
    exact dn_ret (Nat.le_of_ble_eq_true rfl) (Nat.le_of_ble_eq_true rfl) rfl dX3_wordAt_59
abbrev rmX3_parse : Room := { frames := 6, cells := 0, slots := 0, locals := 131 }
def fX3_parse_j167 (l0 : Option Nat) (l1 : Int32) (l2 : Int32) : dnM Int32 :=
  dnB (dnGI l0 2 1) fun v1 =>
  if ¬ l2 = v1 then
  (dnP ((-20) - l2))
  else
  (dnP l1)
def fX3_parse_j148 (l2 : Int32) : dnM ((Int32 × Int32) ⊕ ((Int32 × Int32) ⊕ Int32)) :=
  dnP (.inr (.inr ((-20) - l2)))
def fX3_parse_j93 (l2 : Int32) : dnM ((Int32 × Int32) ⊕ ((Int32) ⊕ Int32)) :=
  dnP (.inr (.inr ((-20) - l2)))
def fX3_parse_b59 (c0 : Option Nat) (c1 : Int32) (c3 : Int32) (s59 : Int32 × Int32) : dnM ((Int32 × Int32) ⊕ ((Int32) ⊕ Int32)) :=
  dnB (dnXW c3) fun v8 =>
  dnB (dnSk v8) fun _ =>
  if (dnNum v8) ≤ s59.2 then
  (dnP (.inr (.inl s59.1)))
  else
  (dnB (dnCv c0 2 (fX3_endOfDigits c0 s59.1)) fun v9 =>
  if v9 = s59.1 then
  (fX3_parse_j93 s59.1)
  else
  (if v9 ≤ (s59.1 + 2) then
  (dnB (dnGR c0 2 3) fun v10 =>
  dnB (dnCv c0 2 (fX3_numberIn c0 s59.1 v9)) fun v11 =>
  dnB (dnTI v10 100 ((c1 * 5) + s59.2) v11) fun _ =>
  dnB (dnCv c0 2 (fX3_endOfSpaces c0 v9)) fun v12 =>
  dnP (.inl (v12, (s59.2 + 1))))
  else
  (fX3_parse_j93 s59.1)))
def fX3_parse_b8 (c0 : Option Nat) (s8 : Int32 × Int32) : dnM ((Int32 × Int32) ⊕ ((Int32 × Int32) ⊕ Int32)) :=
  if 8 ≤ s8.1 then
  (dnP (.inr (.inl (s8.1, s8.2))))
  else
  (dnB (dnGI c0 2 1) fun v3 =>
  if v3 ≤ s8.2 then
  (dnP (.inr (.inl (s8.1, s8.2))))
  else
  (dnB (dnCv c0 2 (fX3_wordAt c0 s8.2)) fun v4 =>
  if ¬ v4 = (-9) then
  (dnB (dnGR c0 2 2) fun v5 =>
  dnB (dnTI v5 100 s8.1 v4) fun _ =>
  dnB (dnCv c0 2 (fX3_endOfLetters c0 s8.2)) fun v6 =>
  dnB (dnCv c0 2 (fX3_endOfSpaces c0 v6)) fun v7 =>
  dnB (dnIt 1000 (fX3_parse_b59 c0 s8.1 v4) (v7, 0)) fun q_ => q_.elim (fun q59 => dnB (dnGI c0 2 1) fun v13 =>
  if q59 = v13 then
  (fX3_parse_j148 q59)
  else
  (dnB (dnGR c0 2 0) fun v14 =>
  dnB (dnAI v14 101 q59) fun v15 =>
  if v15 = 59 then
  (dnB (dnCv c0 2 (fX3_endOfSpaces c0 (q59 + 1))) fun v16 =>
  dnP (.inl ((s8.1 + 1), v16)))
  else
  (fX3_parse_j148 q59))) (fun v_ => dnP (.inr (.inr v_))))
  else
  (dnP (.inr (.inr ((-20) - s8.2))))))
def fX3_parse (r0 : Option Nat) : dnM Int32 :=
  dnB (dnCv r0 2 (fX3_endOfSpaces r0 0)) fun v2 =>
  dnB (dnIt 1000 (fX3_parse_b8 r0) (0, v2)) fun q_ => q_.elim (fun q8 => fX3_parse_j167 r0 q8.1 q8.2) (fun v_ => dnP v_)
abbrev jX3_parse (w : dnWd) (x : dnX) (b : Nat) := dnD w x b (fun _ => True) cX3_parse RX3 6 rmX3_parse "parse" eI
set_option maxHeartbeats 4000000 in
set_option maxRecDepth 100000 in
theorem mX3_parse (w : dnWd) (x : dnX) (b : Nat) (r0 : Option Nat) : dnMt w x b yX3_parse cX3_parse 6 (some .int) rmX3_parse eI [dnV b r0] (fX3_parse r0) := by
  have hlv : lv_args 0 [dnV b r0] = [(0, dnV b r0)] := by cases r0 <;> rfl
  refine dn_mt (by decide +kernel) roI (by cases r0 <;> exact (Nat.le_of_ble_eq_true rfl)) ?_
  rw [hlv]
  refine dn_top ?_
  show jX3_parse w x b 0 0 0 _ [] (dnB _ dnP)
  unfold fX3_parse
  have hj167 : ∀ (l0 : Option Nat) (l1 : Int32) (l2 : Int32), jX3_parse w x b 167 0 0 [(0, dnV b l0), (1, .int l1), (2, .int l2)] [] (dnB (fX3_parse_j167 l0 l1 l2) dnP) := by
    intro l0 l1 l2
    unfold fX3_parse_j167
    refine dn_iload_n (pc := 167) 2 dX3_parse_167 rfl ?_
    refine dn_aload_n (pc := 168) l0 0 dX3_parse_168 rfl ?_
    refine dn_getI (pc := 169) l0 lRX3_15 dX3_parse_169 (fun v1 => ?_)
    refine dn_icmp_ne (pc := 172) 179 dX3_parse_172 rfl (fun _ => ?_) (fun _ => ?_)
    · refine dn_bipush (pc := 179) (v := -20) dX3_parse_179 rfl ?_
      refine dn_iload_n (pc := 181) 2 dX3_parse_181 rfl ?_
      refine dn_isub (pc := 182) dX3_parse_182 ?_
      exact dn_ret (Nat.le_of_ble_eq_true rfl) (Nat.le_of_ble_eq_true rfl) rfl dX3_parse_183
    · refine dn_iload_n (pc := 175) 1 dX3_parse_175 rfl ?_
      refine dn_goto (pc := 176) 183 dX3_parse_176 rfl ?_
      exact dn_ret (Nat.le_of_ble_eq_true rfl) (Nat.le_of_ble_eq_true rfl) rfl dX3_parse_183
  refine dn_iconst (pc := 0) (v := 0) dX3_parse_0 rfl ?_
  refine dn_istore_n (pc := 1) dX3_parse_1 (Nat.le_of_ble_eq_true rfl) (dnKp_nb 0 rfl (dn_cat b _) rfl (dnKp_of (lv2 := []) [] rfl rfl)) ?_
  refine dn_aload_n (pc := 2) r0 1 dX3_parse_2 rfl ?_
  refine dn_iconst (pc := 3) (v := 0) dX3_parse_3 rfl ?_
  refine dn_callV0I (pc := 4) [.int 0] r0 kRX3_30 (mX3_endOfSpaces w x b r0 0) rfl rfl (Nat.le_of_ble_eq_true rfl) ⟨(Nat.le_of_ble_eq_true rfl), (Nat.le_of_ble_eq_true rfl)⟩ ⟨rfl, rfl, (Nat.le_of_ble_eq_true rfl), (Nat.le_of_ble_eq_true rfl)⟩ dX3_parse_4 (fun v2 => ?_)
  refine dn_istore_n (pc := 7) dX3_parse_7 (Nat.le_of_ble_eq_true rfl) (dnKp_nb 0 rfl rfl rfl (dnKp_of (lv2 := [(0, dnV b r0)]) [1] rfl rfl)) ?_
  refine dn_assoc ?_
  refine dn_lv [2, 1, 0] (lv2 := (fun s => [(0, dnV b r0), (1, .int s.1), (2, .int s.2)]) (0, v2)) rfl ?_
  refine dn_loopR (pc := 8) (body := fX3_parse_b8 r0) 167 (fun s => [(0, dnV b r0), (1, .int s.1), (2, .int s.2)]) (fun q => [(0, dnV b r0), (1, .int q.1), (2, .int q.2)]) (fun s8 K8 E8 hK8 hE8 hR8 => ?_) (dn_rt (Nat.le_of_ble_eq_true rfl) (Nat.le_of_ble_eq_true rfl) (fun _ => rfl)) (fun q8 => ?_) 1000 (0, v2)
  · unfold fX3_parse_b8
    have hj148 : ∀ (l2 : Int32), jX3_parse w x b 148 0 0 [(2, .int l2)] [] (dnB (fX3_parse_j148 l2) (dnKo K8 E8)) := by
      intro l2
      unfold fX3_parse_j148
      refine dn_bipush (pc := 148) (v := -20) dX3_parse_148 rfl ?_
      refine dn_iload_n (pc := 150) 0 dX3_parse_150 rfl ?_
      refine dn_isub (pc := 151) dX3_parse_151 ?_
      refine dn_leaf ?_
      exact hR8 ((-20) - l2) _ _ _ rfl dX3_parse_152
    refine dn_iload_n (pc := 8) 1 dX3_parse_8 rfl ?_
    refine dn_bipush (pc := 9) (v := 8) dX3_parse_9 rfl ?_
    refine dn_icmp_ge (pc := 11) 167 dX3_parse_11 rfl (fun _ => ?_) (fun _ => ?_)
    · refine dn_leaf ?_
      exact dn_lv [0, 1, 2] rfl (hE8 (s8.1, s8.2))
    · refine dn_iload_n (pc := 14) 2 dX3_parse_14 rfl ?_
      refine dn_aload_n (pc := 15) r0 0 dX3_parse_15 rfl ?_
      refine dn_getI (pc := 16) r0 lRX3_15 dX3_parse_16 (fun v3 => ?_)
      refine dn_icmp_ge (pc := 19) 167 dX3_parse_19 rfl (fun _ => ?_) (fun _ => ?_)
      · refine dn_leaf ?_
        exact dn_lv [0, 1, 2] rfl (hE8 (s8.1, s8.2))
      · refine dn_aload_n (pc := 22) r0 0 dX3_parse_22 rfl ?_
        refine dn_iload_n (pc := 23) 2 dX3_parse_23 rfl ?_
        refine dn_callV0I (pc := 24) [.int s8.2] r0 kRX3_34 (mX3_wordAt w x b r0 s8.2) rfl rfl (Nat.le_of_ble_eq_true rfl) ⟨(Nat.le_of_ble_eq_true rfl), (Nat.le_of_ble_eq_true rfl)⟩ ⟨rfl, rfl, (Nat.le_of_ble_eq_true rfl), (Nat.le_of_ble_eq_true rfl)⟩ dX3_parse_24 (fun v4 => ?_)
        refine dn_istore_n (pc := 27) dX3_parse_27 (Nat.le_of_ble_eq_true rfl) (dnKp_nb 2 rfl rfl rfl (dnKp_of (lv2 := [(0, dnV b r0), (1, .int s8.1)]) [0, 1] rfl rfl)) ?_
        refine dn_iload_n (pc := 28) 0 dX3_parse_28 rfl ?_
        refine dn_bipush (pc := 29) (v := -9) dX3_parse_29 rfl ?_
        refine dn_icmp_ne (pc := 31) 39 dX3_parse_31 rfl (fun _ => ?_) (fun _ => ?_)
        · refine dn_aload_n (pc := 39) r0 2 dX3_parse_39 rfl ?_
          refine dn_getR (pc := 40) r0 lRX3_19 dX3_parse_40 (fun v5 => ?_)
          refine dn_iload_n (pc := 43) 3 dX3_parse_43 rfl ?_
          refine dn_iload_n (pc := 44) 0 dX3_parse_44 rfl ?_
          refine dn_iast (pc := 45) v5 dX3_parse_45 ?_
          refine dn_aload_n (pc := 46) r0 2 dX3_parse_46 rfl ?_
          refine dn_aload_n (pc := 47) r0 2 dX3_parse_47 rfl ?_
          refine dn_iload_n (pc := 48) 1 dX3_parse_48 rfl ?_
          refine dn_callV0I (pc := 49) [.int s8.2] r0 kRX3_37 (mX3_endOfLetters w x b r0 s8.2) rfl rfl (Nat.le_of_ble_eq_true rfl) ⟨(Nat.le_of_ble_eq_true rfl), (Nat.le_of_ble_eq_true rfl)⟩ ⟨rfl, rfl, (Nat.le_of_ble_eq_true rfl), (Nat.le_of_ble_eq_true rfl)⟩ dX3_parse_49 (fun v6 => ?_)
          refine dn_callV0I (pc := 52) [.int v6] r0 kRX3_30 (mX3_endOfSpaces w x b r0 v6) rfl rfl (Nat.le_of_ble_eq_true rfl) ⟨(Nat.le_of_ble_eq_true rfl), (Nat.le_of_ble_eq_true rfl)⟩ ⟨rfl, rfl, (Nat.le_of_ble_eq_true rfl), (Nat.le_of_ble_eq_true rfl)⟩ dX3_parse_52 (fun v7 => ?_)
          refine dn_istore_n (pc := 55) dX3_parse_55 (Nat.le_of_ble_eq_true rfl) (dnKp_nb 3 rfl rfl rfl (dnKp_of (lv2 := [(3, .int v4), (0, dnV b r0)]) [0, 2] rfl rfl)) ?_
          refine dn_iconst (pc := 56) (v := 0) dX3_parse_56 rfl ?_
          refine dn_istore (pc := 57) dX3_parse_57 (Nat.le_of_ble_eq_true rfl) (dnKp_nb 2 rfl rfl rfl (dnKp_of (lv2 := [(2, .int v7), (1, .int s8.1), (0, dnV b r0)]) [0, 1, 3] rfl rfl)) ?_
          refine dn_assoc ?_
          refine dn_lv [4, 3, 2, 1, 0] (lv2 := (fun s => [(0, dnV b r0), (1, .int s8.1), (2, .int s.1), (3, .int v4), (4, .int s.2)]) (v7, 0)) rfl ?_
          refine dn_loopR (pc := 59) (body := fX3_parse_b59 r0 s8.1 v4) 129 (fun s => [(0, dnV b r0), (1, .int s8.1), (2, .int s.1), (3, .int v4), (4, .int s.2)]) (fun q => [(0, dnV b r0), (1, .int s8.1), (2, .int q)]) (fun s59 K59 E59 hK59 hE59 hR59 => ?_) hR8 (fun q59 => ?_) 1000 (v7, 0)
          · unfold fX3_parse_b59
            have hj93 : ∀ (l2 : Int32), jX3_parse w x b 93 0 0 [(2, .int l2)] [] (dnB (fX3_parse_j93 l2) (dnKo K59 E59)) := by
              intro l2
              unfold fX3_parse_j93
              refine dn_bipush (pc := 93) (v := -20) dX3_parse_93 rfl ?_
              refine dn_iload_n (pc := 95) 0 dX3_parse_95 rfl ?_
              refine dn_isub (pc := 96) dX3_parse_96 ?_
              refine dn_leaf ?_
              exact hR59 ((-20) - l2) _ _ _ rfl dX3_parse_97
            refine dn_iload (pc := 59) 4 dX3_parse_59 rfl ?_
            refine dn_getsN (pc := 61) dnX_wds kf_wds dX3_parse_61 ?_
            refine dn_iload_n (pc := 64) 3 dX3_parse_64 rfl ?_
            refine dn_aaldX (pc := 65) dX3_parse_65 (fun v8 => ?_)
            refine dn_Sk (fun hk_ => ?_)
            refine dn_getOF (pc := 66) (dnX_num hk_) kf_num dX3_parse_66 ?_
            refine dn_icmp_ge (pc := 69) 129 dX3_parse_69 rfl (fun _ => ?_) (fun _ => ?_)
            · refine dn_leaf ?_
              exact dn_lv [0, 1, 2] rfl (hE59 s59.1)
            · refine dn_aload_n (pc := 72) r0 0 dX3_parse_72 rfl ?_
              refine dn_iload_n (pc := 73) 2 dX3_parse_73 rfl ?_
              refine dn_callV0I (pc := 74) [.int s59.1] r0 kRX3_44 (mX3_endOfDigits w x b r0 s59.1) rfl rfl (Nat.le_of_ble_eq_true rfl) ⟨(Nat.le_of_ble_eq_true rfl), (Nat.le_of_ble_eq_true rfl)⟩ ⟨rfl, rfl, (Nat.le_of_ble_eq_true rfl), (Nat.le_of_ble_eq_true rfl)⟩ dX3_parse_74 (fun v9 => ?_)
              refine dn_istore (pc := 77) dX3_parse_77 (Nat.le_of_ble_eq_true rfl) (dnKp_nb 4 rfl rfl rfl (dnKp_of (lv2 := [(0, dnV b r0), (1, .int s8.1), (2, .int s59.1), (3, .int v4)]) [0, 1, 2, 3] rfl rfl)) ?_
              refine dn_iload (pc := 79) 0 dX3_parse_79 rfl ?_
              refine dn_iload_n (pc := 81) 4 dX3_parse_81 rfl ?_
              refine dn_icmp_eq (pc := 82) 93 dX3_parse_82 rfl (fun _ => ?_) (fun _ => ?_)
              · exact dn_lv [4] rfl (hj93 s59.1)
              · refine dn_iload (pc := 85) 0 dX3_parse_85 rfl ?_
                refine dn_iload_n (pc := 87) 4 dX3_parse_87 rfl ?_
                refine dn_iconst (pc := 88) (v := 2) dX3_parse_88 rfl ?_
                refine dn_iadd (pc := 89) dX3_parse_89 ?_
                refine dn_icmp_le (pc := 90) 98 dX3_parse_90 rfl (fun _ => ?_) (fun _ => ?_)
                · refine dn_aload_n (pc := 98) r0 2 dX3_parse_98 rfl ?_
                  refine dn_getR (pc := 99) r0 lRX3_23 dX3_parse_99 (fun v10 => ?_)
                  refine dn_iload_n (pc := 102) 3 dX3_parse_102 rfl ?_
                  refine dn_iconst (pc := 103) (v := 5) dX3_parse_103 rfl ?_
                  refine dn_imul (pc := 104) dX3_parse_104 ?_
                  refine dn_iload (pc := 105) 1 dX3_parse_105 rfl ?_
                  refine dn_iadd (pc := 107) dX3_parse_107 ?_
                  refine dn_aload_n (pc := 108) r0 2 dX3_parse_108 rfl ?_
                  refine dn_iload_n (pc := 109) 4 dX3_parse_109 rfl ?_
                  refine dn_iload (pc := 110) 0 dX3_parse_110 rfl ?_
                  refine dn_callV0I (pc := 112) [.int s59.1, .int v9] r0 kRX3_47 (mX3_numberIn w x b r0 s59.1 v9) rfl rfl (Nat.le_of_ble_eq_true rfl) ⟨(Nat.le_of_ble_eq_true rfl), (Nat.le_of_ble_eq_true rfl)⟩ ⟨rfl, rfl, (Nat.le_of_ble_eq_true rfl), (Nat.le_of_ble_eq_true rfl)⟩ dX3_parse_112 (fun v11 => ?_)
                  refine dn_iast (pc := 115) v10 dX3_parse_115 ?_
                  refine dn_aload_n (pc := 116) r0 2 dX3_parse_116 rfl ?_
                  refine dn_iload (pc := 117) 0 dX3_parse_117 rfl ?_
                  refine dn_callV0I (pc := 119) [.int v9] r0 kRX3_30 (mX3_endOfSpaces w x b r0 v9) rfl rfl (Nat.le_of_ble_eq_true rfl) ⟨(Nat.le_of_ble_eq_true rfl), (Nat.le_of_ble_eq_true rfl)⟩ ⟨rfl, rfl, (Nat.le_of_ble_eq_true rfl), (Nat.le_of_ble_eq_true rfl)⟩ dX3_parse_119 (fun v12 => ?_)
                  refine dn_istore_n (pc := 122) dX3_parse_122 (Nat.le_of_ble_eq_true rfl) (dnKp_nb 3 rfl rfl rfl (dnKp_of (lv2 := [(4, .int s59.2), (0, dnV b r0), (3, .int v4)]) [1, 2, 5] rfl rfl)) ?_
                  refine dn_iinc (pc := 123) (s59.2 + 1) 2 dX3_parse_123 rfl rfl (Nat.le_of_ble_eq_true rfl) (dnKp_nb 4 rfl rfl rfl (dnKp_of (lv2 := [(2, .int v12), (1, .int s8.1), (0, dnV b r0)]) [0, 1, 3] rfl rfl)) ?_
                  refine dn_goto (pc := 126) 59 dX3_parse_126 rfl ?_
                  refine dn_leaf ?_
                  exact dn_lv [4, 3, 2, 1, 0] rfl (hK59 (v12, (s59.2 + 1)))
                · exact dn_lv [4] rfl (hj93 s59.1)
          · dsimp only [Sum.elim_inl]
            refine dn_iload_n (pc := 129) 2 dX3_parse_129 rfl ?_
            refine dn_aload_n (pc := 130) r0 0 dX3_parse_130 rfl ?_
            refine dn_getI (pc := 131) r0 lRX3_15 dX3_parse_131 (fun v13 => ?_)
            refine dn_icmp_eq (pc := 134) 148 dX3_parse_134 rfl (fun _ => ?_) (fun _ => ?_)
            · exact dn_lv [2] rfl (hj148 q59)
            · refine dn_aload_n (pc := 137) r0 0 dX3_parse_137 rfl ?_
              refine dn_getR (pc := 138) r0 lRX3_9 dX3_parse_138 (fun v14 => ?_)
              refine dn_iload_n (pc := 141) 2 dX3_parse_141 rfl ?_
              refine dn_cald (pc := 142) v14 dX3_parse_142 (fun v15 => ?_)
              refine dn_bipush (pc := 143) (v := 59) dX3_parse_143 rfl ?_
              refine dn_icmp_eq (pc := 145) 153 dX3_parse_145 rfl (fun _ => ?_) (fun _ => ?_)
              · refine dn_aload_n (pc := 153) r0 0 dX3_parse_153 rfl ?_
                refine dn_iload_n (pc := 154) 2 dX3_parse_154 rfl ?_
                refine dn_iconst (pc := 155) (v := 1) dX3_parse_155 rfl ?_
                refine dn_iadd (pc := 156) dX3_parse_156 ?_
                refine dn_callV0I (pc := 157) [.int (q59 + 1)] r0 kRX3_30 (mX3_endOfSpaces w x b r0 (q59 + 1)) rfl rfl (Nat.le_of_ble_eq_true rfl) ⟨(Nat.le_of_ble_eq_true rfl), (Nat.le_of_ble_eq_true rfl)⟩ ⟨rfl, rfl, (Nat.le_of_ble_eq_true rfl), (Nat.le_of_ble_eq_true rfl)⟩ dX3_parse_157 (fun v16 => ?_)
                refine dn_istore_n (pc := 160) dX3_parse_160 (Nat.le_of_ble_eq_true rfl) (dnKp_nb 1 rfl rfl rfl (dnKp_of (lv2 := [(0, dnV b r0)]) [0] rfl rfl)) ?_
                refine dn_iinc (pc := 161) (s8.1 + 1) 1 dX3_parse_161 rfl rfl (Nat.le_of_ble_eq_true rfl) (dnKp_nb 2 rfl (dn_cat b _) rfl (dnKp_of (lv2 := [(2, .int v16)]) [0] rfl rfl)) ?_
                refine dn_goto (pc := 164) 8 dX3_parse_164 rfl ?_
                refine dn_leaf ?_
                exact dn_lv [1, 0, 2] rfl (hK8 ((s8.1 + 1), v16))
              · exact dn_lv [2] rfl (hj148 q59)
        · refine dn_bipush (pc := 34) (v := -20) dX3_parse_34 rfl ?_
          refine dn_iload_n (pc := 36) 1 dX3_parse_36 rfl ?_
          refine dn_isub (pc := 37) dX3_parse_37 ?_
          refine dn_leaf ?_
          exact hR8 ((-20) - s8.2) _ _ _ rfl dX3_parse_38
  · dsimp only [Sum.elim_inl]
    exact dn_lv [0, 1, 2] rfl (hj167 r0 q8.1 q8.2)
abbrev rmX12_carryOut : Room := { frames := 6, cells := 0, slots := 0, locals := 146 }
def fX12_carryOut (r0 : Option Nat) (p1 : Int32) : dnM Int32 :=
  dnB (dnGR r0 10 9) fun v1 =>
  dnB (dnCv v1 2 (fX3_numberOf v1 p1 0)) fun v2 =>
  dnB (dnGR r0 10 9) fun v3 =>
  dnB (dnCv v3 2 (fX3_numberOf v3 p1 1)) fun v4 =>
  dnB (dnGR r0 10 9) fun v5 =>
  dnB (dnCv v5 2 (fX3_numberOf v5 p1 2)) fun v6 =>
  dnB (dnGR r0 10 9) fun v7 =>
  dnB (dnCv v7 2 (fX3_numberOf v7 p1 3)) fun v8 =>
  dnB (dnGR r0 10 9) fun v9 =>
  dnB (dnCv v9 2 (fX3_wordOf v9 p1)) fun v10 =>
  dnB (dnSk v10) fun _ =>
  dnB (dnXs (Int32.ofNat v10)) fun v11 =>
  if v11 = 1 then
  (dnB (dnGR r0 10 0) fun v40 =>
  dnB (dnCv v40 7 (fX9_newRow v40 v2 v4 v6 v8)) fun v41 =>
  dnP v41)
  else
  (if v11 = 2 then
  (dnB (dnGR r0 10 0) fun v38 =>
  dnB (dnCv v38 7 (fX9_removeGrid v38 v2)) fun v39 =>
  dnP v39)
  else
  (if v11 = 3 then
  (dnB (dnGR r0 10 0) fun v36 =>
  dnB (dnCv v36 7 (fX9_exchange v36 v2 v4 v6 v8)) fun v37 =>
  dnP v37)
  else
  (if v11 = 4 then
  (dnB (dnGR r0 10 0) fun v34 =>
  dnB (dnCv v34 7 (fX9_shareContent v34 v2 v4 v6 v8)) fun v35 =>
  dnP v35)
  else
  (if v11 = 5 then
  (dnB (dnGR r0 10 4) fun v30 =>
  dnB (dnGR r0 10 9) fun v31 =>
  dnB (dnCv v31 2 (fX3_numberOf v31 p1 4)) fun v32 =>
  dnB (dnCv v30 5 (fX6_cutOut v30 v2 v4 v6 v8 v32)) fun v33 =>
  dnP v33)
  else
  (if v11 = 6 then
  (dnB (dnGR r0 10 4) fun v28 =>
  dnB (dnCv v28 5 (fX6_castRow v28 v2 v4 v6)) fun v29 =>
  dnP v29)
  else
  (if v11 = 7 then
  (dnB (dnGR r0 10 4) fun v26 =>
  dnB (dnCv v26 5 (fX6_joinRows v26 v2 v4 v6)) fun v27 =>
  dnP v27)
  else
  (if v11 = 8 then
  (dnB (dnGR r0 10 4) fun v24 =>
  dnB (dnCv v24 5 (fX6_reverse v24 v2 v4)) fun v25 =>
  dnP v25)
  else
  (if v11 = 9 then
  (dnB (dnGR r0 10 4) fun v22 =>
  dnB (dnCv v22 5 (fX6_rotate v22 v2 v4 v6)) fun v23 =>
  dnP v23)
  else
  (if v11 = 10 then
  (dnB (dnGR r0 10 4) fun v20 =>
  dnB (dnCv v20 5 (fX6_sortRow v20 v2 v4)) fun v21 =>
  dnP v21)
  else
  (if v11 = 11 then
  (dnB (dnGR r0 10 4) fun v18 =>
  dnB (dnCv v18 5 (fX6_increase v18 v2 v4 v6 v8)) fun v19 =>
  dnP v19)
  else
  (if v11 = 12 then
  (dnB (dnGR r0 10 5) fun v16 =>
  dnB (dnCv v16 9 (fX11_flatten v16 v2 v4 v6)) fun v17 =>
  dnP v17)
  else
  (if v11 = 13 then
  (dnB (dnGR r0 10 5) fun v14 =>
  dnB (dnCv v14 9 (fX11_dealOut v14 v2 v4 v6 v8)) fun v15 =>
  dnP v15)
  else
  (dnB (dnGR r0 10 5) fun v12 =>
  dnB (dnCv v12 9 (fX11_transpose v12 v2 v4)) fun v13 =>
  dnP v13)))))))))))))
abbrev jX12_carryOut (w : dnWd) (x : dnX) (b : Nat) := dnD w x b (fun _ => True) cX12_carryOut RX12 6 rmX12_carryOut "carryOut" eI
set_option maxHeartbeats 4000000 in
set_option maxRecDepth 100000 in
theorem mX12_carryOut (w : dnWd) (x : dnX) (b : Nat) (r0 : Option Nat) (p1 : Int32) : dnMt w x b yX12_carryOut cX12_carryOut 6 (some .int) rmX12_carryOut eI [dnV b r0, .int p1] (fX12_carryOut r0 p1) := by
  have hlv : lv_args 0 [dnV b r0, .int p1] = [(0, dnV b r0), (1, .int p1)] := by cases r0 <;> rfl
  refine dn_mt (by decide +kernel) roI (by cases r0 <;> exact (Nat.le_of_ble_eq_true rfl)) ?_
  rw [hlv]
  refine dn_top ?_
  show jX12_carryOut w x b 0 0 0 _ [] (dnB _ dnP)
  unfold fX12_carryOut
  refine dn_aload_n (pc := 0) r0 0 dX12_carryOut_0 rfl ?_
  refine dn_getR (pc := 1) r0 lRX12_70 dX12_carryOut_1 (fun v1 => ?_)
  refine dn_iload_n (pc := 4) 1 dX12_carryOut_4 rfl ?_
  refine dn_iconst (pc := 5) (v := 0) dX12_carryOut_5 rfl ?_
  refine dn_callV0I (pc := 6) [.int p1, .int 0] v1 kRX12_282 (mX3_numberOf w x b v1 p1 0) rfl rfl (Nat.le_of_ble_eq_true rfl) ⟨(Nat.le_of_ble_eq_true rfl), (Nat.le_of_ble_eq_true rfl)⟩ ⟨rfl, rfl, (Nat.le_of_ble_eq_true rfl), (Nat.le_of_ble_eq_true rfl)⟩ dX12_carryOut_6 (fun v2 => ?_)
  refine dn_istore_n (pc := 9) dX12_carryOut_9 (Nat.le_of_ble_eq_true rfl) (dnKp_nb 1 rfl rfl rfl (dnKp_of (lv2 := [(0, dnV b r0)]) [0] rfl rfl)) ?_
  refine dn_aload_n (pc := 10) r0 2 dX12_carryOut_10 rfl ?_
  refine dn_getR (pc := 11) r0 lRX12_70 dX12_carryOut_11 (fun v3 => ?_)
  refine dn_iload_n (pc := 14) 1 dX12_carryOut_14 rfl ?_
  refine dn_iconst (pc := 15) (v := 1) dX12_carryOut_15 rfl ?_
  refine dn_callV0I (pc := 16) [.int p1, .int 1] v3 kRX12_282 (mX3_numberOf w x b v3 p1 1) rfl rfl (Nat.le_of_ble_eq_true rfl) ⟨(Nat.le_of_ble_eq_true rfl), (Nat.le_of_ble_eq_true rfl)⟩ ⟨rfl, rfl, (Nat.le_of_ble_eq_true rfl), (Nat.le_of_ble_eq_true rfl)⟩ dX12_carryOut_16 (fun v4 => ?_)
  refine dn_istore_n (pc := 19) dX12_carryOut_19 (Nat.le_of_ble_eq_true rfl) (dnKp_nb 0 rfl rfl rfl (dnKp_of (lv2 := [(1, .int p1), (0, dnV b r0)]) [1, 2] rfl rfl)) ?_
  refine dn_aload_n (pc := 20) r0 3 dX12_carryOut_20 rfl ?_
  refine dn_getR (pc := 21) r0 lRX12_70 dX12_carryOut_21 (fun v5 => ?_)
  refine dn_iload_n (pc := 24) 2 dX12_carryOut_24 rfl ?_
  refine dn_iconst (pc := 25) (v := 2) dX12_carryOut_25 rfl ?_
  refine dn_callV0I (pc := 26) [.int p1, .int 2] v5 kRX12_282 (mX3_numberOf w x b v5 p1 2) rfl rfl (Nat.le_of_ble_eq_true rfl) ⟨(Nat.le_of_ble_eq_true rfl), (Nat.le_of_ble_eq_true rfl)⟩ ⟨rfl, rfl, (Nat.le_of_ble_eq_true rfl), (Nat.le_of_ble_eq_true rfl)⟩ dX12_carryOut_26 (fun v6 => ?_)
  refine dn_istore (pc := 29) dX12_carryOut_29 (Nat.le_of_ble_eq_true rfl) (dnKp_nb 0 rfl rfl rfl (dnKp_of (lv2 := [(2, .int v2), (1, .int p1), (0, dnV b r0)]) [1, 2, 3] rfl rfl)) ?_
  refine dn_aload_n (pc := 31) r0 4 dX12_carryOut_31 rfl ?_
  refine dn_getR (pc := 32) r0 lRX12_70 dX12_carryOut_32 (fun v7 => ?_)
  refine dn_iload_n (pc := 35) 3 dX12_carryOut_35 rfl ?_
  refine dn_iconst (pc := 36) (v := 3) dX12_carryOut_36 rfl ?_
  refine dn_callV0I (pc := 37) [.int p1, .int 3] v7 kRX12_282 (mX3_numberOf w x b v7 p1 3) rfl rfl (Nat.le_of_ble_eq_true rfl) ⟨(Nat.le_of_ble_eq_true rfl), (Nat.le_of_ble_eq_true rfl)⟩ ⟨rfl, rfl, (Nat.le_of_ble_eq_true rfl), (Nat.le_of_ble_eq_true rfl)⟩ dX12_carryOut_37 (fun v8 => ?_)
  refine dn_istore (pc := 40) dX12_carryOut_40 (Nat.le_of_ble_eq_true rfl) (dnKp_nb 0 rfl rfl rfl (dnKp_of (lv2 := [(3, .int v4), (2, .int v2), (1, .int p1), (0, dnV b r0)]) [1, 2, 3, 4] rfl rfl)) ?_
  refine dn_gets (pc := 42) dnX_swm kf_swm dX12_carryOut_42 ?_
  refine dn_aload_n (pc := 45) r0 5 dX12_carryOut_45 rfl ?_
  refine dn_getR (pc := 46) r0 lRX12_70 dX12_carryOut_46 (fun v9 => ?_)
  refine dn_iload_n (pc := 49) 4 dX12_carryOut_49 rfl ?_
  refine dn_callV0 (pc := 50) [.int p1] v9 kRX12_290 (mX3_wordOf w x b v9 p1) rfl rfl (Nat.le_of_ble_eq_true rfl) ⟨(Nat.le_of_ble_eq_true rfl), (Nat.le_of_ble_eq_true rfl)⟩ ⟨rfl, rfl, (Nat.le_of_ble_eq_true rfl), (Nat.le_of_ble_eq_true rfl)⟩ dX12_carryOut_50 (fun v10 => ?_)
  refine dn_callOrd (pc := 53) (Nat.le_of_ble_eq_true rfl) ⟨(Nat.le_of_ble_eq_true rfl), (Nat.le_of_ble_eq_true rfl)⟩ ⟨(Nat.le_of_ble_eq_true rfl), (Nat.le_of_ble_eq_true rfl)⟩ dX12_carryOut_53 ?_
  refine dn_ialdX (pc := 56) dX12_carryOut_56 (fun v11 => ?_)
  refine dn_tcase (pc := 57) 1 124 dX12_carryOut_57 (by decide) (by decide) rfl rfl (fun _ => ?_) (fun n57_1 => ?_)
  · refine dn_aload_n (pc := 124) r0 5 dX12_carryOut_124 rfl ?_
    refine dn_getR (pc := 125) r0 lRX12_10 dX12_carryOut_125 (fun v40 => ?_)
    refine dn_iload_n (pc := 128) 3 dX12_carryOut_128 rfl ?_
    refine dn_iload_n (pc := 129) 2 dX12_carryOut_129 rfl ?_
    refine dn_iload (pc := 130) 1 dX12_carryOut_130 rfl ?_
    refine dn_iload (pc := 132) 0 dX12_carryOut_132 rfl ?_
    refine dn_callV0I (pc := 134) [.int v2, .int v4, .int v6, .int v8] v40 kRX12_98 (mX9_newRow w x b v40 v2 v4 v6 v8) rfl rfl (Nat.le_of_ble_eq_true rfl) ⟨(Nat.le_of_ble_eq_true rfl), (Nat.le_of_ble_eq_true rfl)⟩ ⟨rfl, rfl, (Nat.le_of_ble_eq_true rfl), (Nat.le_of_ble_eq_true rfl)⟩ dX12_carryOut_134 (fun v41 => ?_)
    exact dn_ret (Nat.le_of_ble_eq_true rfl) (Nat.le_of_ble_eq_true rfl) rfl dX12_carryOut_137
  · refine dn_tcase (pc := 57) 2 138 dX12_carryOut_57 (by decide) (by decide) rfl rfl (fun _ => ?_) (fun n57_2 => ?_)
    · refine dn_aload_n (pc := 138) r0 5 dX12_carryOut_138 rfl ?_
      refine dn_getR (pc := 139) r0 lRX12_10 dX12_carryOut_139 (fun v38 => ?_)
      refine dn_iload_n (pc := 142) 3 dX12_carryOut_142 rfl ?_
      refine dn_callV0I (pc := 143) [.int v2] v38 kRX12_95 (mX9_removeGrid w x b v38 v2) rfl rfl (Nat.le_of_ble_eq_true rfl) ⟨(Nat.le_of_ble_eq_true rfl), (Nat.le_of_ble_eq_true rfl)⟩ ⟨rfl, rfl, (Nat.le_of_ble_eq_true rfl), (Nat.le_of_ble_eq_true rfl)⟩ dX12_carryOut_143 (fun v39 => ?_)
      exact dn_ret (Nat.le_of_ble_eq_true rfl) (Nat.le_of_ble_eq_true rfl) rfl dX12_carryOut_146
    · refine dn_tcase (pc := 57) 3 147 dX12_carryOut_57 (by decide) (by decide) rfl rfl (fun _ => ?_) (fun n57_3 => ?_)
      · refine dn_aload_n (pc := 147) r0 5 dX12_carryOut_147 rfl ?_
        refine dn_getR (pc := 148) r0 lRX12_10 dX12_carryOut_148 (fun v36 => ?_)
        refine dn_iload_n (pc := 151) 3 dX12_carryOut_151 rfl ?_
        refine dn_iload_n (pc := 152) 2 dX12_carryOut_152 rfl ?_
        refine dn_iload (pc := 153) 1 dX12_carryOut_153 rfl ?_
        refine dn_iload (pc := 155) 0 dX12_carryOut_155 rfl ?_
        refine dn_callV0I (pc := 157) [.int v2, .int v4, .int v6, .int v8] v36 kRX12_109 (mX9_exchange w x b v36 v2 v4 v6 v8) rfl rfl (Nat.le_of_ble_eq_true rfl) ⟨(Nat.le_of_ble_eq_true rfl), (Nat.le_of_ble_eq_true rfl)⟩ ⟨rfl, rfl, (Nat.le_of_ble_eq_true rfl), (Nat.le_of_ble_eq_true rfl)⟩ dX12_carryOut_157 (fun v37 => ?_)
        exact dn_ret (Nat.le_of_ble_eq_true rfl) (Nat.le_of_ble_eq_true rfl) rfl dX12_carryOut_160
      · refine dn_tcase (pc := 57) 4 161 dX12_carryOut_57 (by decide) (by decide) rfl rfl (fun _ => ?_) (fun n57_4 => ?_)
        · refine dn_aload_n (pc := 161) r0 5 dX12_carryOut_161 rfl ?_
          refine dn_getR (pc := 162) r0 lRX12_10 dX12_carryOut_162 (fun v34 => ?_)
          refine dn_iload_n (pc := 165) 3 dX12_carryOut_165 rfl ?_
          refine dn_iload_n (pc := 166) 2 dX12_carryOut_166 rfl ?_
          refine dn_iload (pc := 167) 1 dX12_carryOut_167 rfl ?_
          refine dn_iload (pc := 169) 0 dX12_carryOut_169 rfl ?_
          refine dn_callV0I (pc := 171) [.int v2, .int v4, .int v6, .int v8] v34 kRX12_106 (mX9_shareContent w x b v34 v2 v4 v6 v8) rfl rfl (Nat.le_of_ble_eq_true rfl) ⟨(Nat.le_of_ble_eq_true rfl), (Nat.le_of_ble_eq_true rfl)⟩ ⟨rfl, rfl, (Nat.le_of_ble_eq_true rfl), (Nat.le_of_ble_eq_true rfl)⟩ dX12_carryOut_171 (fun v35 => ?_)
          exact dn_ret (Nat.le_of_ble_eq_true rfl) (Nat.le_of_ble_eq_true rfl) rfl dX12_carryOut_174
        · refine dn_tcase (pc := 57) 5 175 dX12_carryOut_57 (by decide) (by decide) rfl rfl (fun _ => ?_) (fun n57_5 => ?_)
          · refine dn_aload_n (pc := 175) r0 5 dX12_carryOut_175 rfl ?_
            refine dn_getR (pc := 176) r0 lRX12_35 dX12_carryOut_176 (fun v30 => ?_)
            refine dn_iload_n (pc := 179) 3 dX12_carryOut_179 rfl ?_
            refine dn_iload_n (pc := 180) 2 dX12_carryOut_180 rfl ?_
            refine dn_iload (pc := 181) 1 dX12_carryOut_181 rfl ?_
            refine dn_iload (pc := 183) 0 dX12_carryOut_183 rfl ?_
            refine dn_aload_n (pc := 185) r0 5 dX12_carryOut_185 rfl ?_
            refine dn_getR (pc := 186) r0 lRX12_70 dX12_carryOut_186 (fun v31 => ?_)
            refine dn_iload_n (pc := 189) 4 dX12_carryOut_189 rfl ?_
            refine dn_iconst (pc := 190) (v := 4) dX12_carryOut_190 rfl ?_
            refine dn_callV8I (pc := 191) [.int p1, .int 4] v31 kRX12_282 (mX3_numberOf w x b v31 p1 4) rfl rfl (by show 1 + (1 + (1 + (1 + ((dnV b v30).category + 0)))) ≤ 8; rw [dn_cat]; decide) ⟨(Nat.le_of_ble_eq_true rfl), (Nat.le_of_ble_eq_true rfl)⟩ ⟨rfl, rfl, (Nat.le_of_ble_eq_true rfl), (Nat.le_of_ble_eq_true rfl)⟩ dX12_carryOut_191 (fun v32 => ?_)
            refine dn_callV0I (pc := 194) [.int v2, .int v4, .int v6, .int v8, .int v32] v30 kRX12_138 (mX6_cutOut w x b v30 v2 v4 v6 v8 v32) rfl rfl (Nat.le_of_ble_eq_true rfl) ⟨(Nat.le_of_ble_eq_true rfl), (Nat.le_of_ble_eq_true rfl)⟩ ⟨rfl, rfl, (Nat.le_of_ble_eq_true rfl), (Nat.le_of_ble_eq_true rfl)⟩ dX12_carryOut_194 (fun v33 => ?_)
            exact dn_ret (Nat.le_of_ble_eq_true rfl) (Nat.le_of_ble_eq_true rfl) rfl dX12_carryOut_197
          · refine dn_tcase (pc := 57) 6 198 dX12_carryOut_57 (by decide) (by decide) rfl rfl (fun _ => ?_) (fun n57_6 => ?_)
            · refine dn_aload_n (pc := 198) r0 5 dX12_carryOut_198 rfl ?_
              refine dn_getR (pc := 199) r0 lRX12_35 dX12_carryOut_199 (fun v28 => ?_)
              refine dn_iload_n (pc := 202) 3 dX12_carryOut_202 rfl ?_
              refine dn_iload_n (pc := 203) 2 dX12_carryOut_203 rfl ?_
              refine dn_iload (pc := 204) 1 dX12_carryOut_204 rfl ?_
              refine dn_callV0I (pc := 206) [.int v2, .int v4, .int v6] v28 kRX12_142 (mX6_castRow w x b v28 v2 v4 v6) rfl rfl (Nat.le_of_ble_eq_true rfl) ⟨(Nat.le_of_ble_eq_true rfl), (Nat.le_of_ble_eq_true rfl)⟩ ⟨rfl, rfl, (Nat.le_of_ble_eq_true rfl), (Nat.le_of_ble_eq_true rfl)⟩ dX12_carryOut_206 (fun v29 => ?_)
              exact dn_ret (Nat.le_of_ble_eq_true rfl) (Nat.le_of_ble_eq_true rfl) rfl dX12_carryOut_209
            · refine dn_tcase (pc := 57) 7 210 dX12_carryOut_57 (by decide) (by decide) rfl rfl (fun _ => ?_) (fun n57_7 => ?_)
              · refine dn_aload_n (pc := 210) r0 5 dX12_carryOut_210 rfl ?_
                refine dn_getR (pc := 211) r0 lRX12_35 dX12_carryOut_211 (fun v26 => ?_)
                refine dn_iload_n (pc := 214) 3 dX12_carryOut_214 rfl ?_
                refine dn_iload_n (pc := 215) 2 dX12_carryOut_215 rfl ?_
                refine dn_iload (pc := 216) 1 dX12_carryOut_216 rfl ?_
                refine dn_callV0I (pc := 218) [.int v2, .int v4, .int v6] v26 kRX12_148 (mX6_joinRows w x b v26 v2 v4 v6) rfl rfl (Nat.le_of_ble_eq_true rfl) ⟨(Nat.le_of_ble_eq_true rfl), (Nat.le_of_ble_eq_true rfl)⟩ ⟨rfl, rfl, (Nat.le_of_ble_eq_true rfl), (Nat.le_of_ble_eq_true rfl)⟩ dX12_carryOut_218 (fun v27 => ?_)
                exact dn_ret (Nat.le_of_ble_eq_true rfl) (Nat.le_of_ble_eq_true rfl) rfl dX12_carryOut_221
              · refine dn_tcase (pc := 57) 8 222 dX12_carryOut_57 (by decide) (by decide) rfl rfl (fun _ => ?_) (fun n57_8 => ?_)
                · refine dn_aload_n (pc := 222) r0 5 dX12_carryOut_222 rfl ?_
                  refine dn_getR (pc := 223) r0 lRX12_35 dX12_carryOut_223 (fun v24 => ?_)
                  refine dn_iload_n (pc := 226) 3 dX12_carryOut_226 rfl ?_
                  refine dn_iload_n (pc := 227) 2 dX12_carryOut_227 rfl ?_
                  refine dn_callV0I (pc := 228) [.int v2, .int v4] v24 kRX12_151 (mX6_reverse w x b v24 v2 v4) rfl rfl (Nat.le_of_ble_eq_true rfl) ⟨(Nat.le_of_ble_eq_true rfl), (Nat.le_of_ble_eq_true rfl)⟩ ⟨rfl, rfl, (Nat.le_of_ble_eq_true rfl), (Nat.le_of_ble_eq_true rfl)⟩ dX12_carryOut_228 (fun v25 => ?_)
                  exact dn_ret (Nat.le_of_ble_eq_true rfl) (Nat.le_of_ble_eq_true rfl) rfl dX12_carryOut_231
                · refine dn_tcase (pc := 57) 9 232 dX12_carryOut_57 (by decide) (by decide) rfl rfl (fun _ => ?_) (fun n57_9 => ?_)
                  · refine dn_aload_n (pc := 232) r0 5 dX12_carryOut_232 rfl ?_
                    refine dn_getR (pc := 233) r0 lRX12_35 dX12_carryOut_233 (fun v22 => ?_)
                    refine dn_iload_n (pc := 236) 3 dX12_carryOut_236 rfl ?_
                    refine dn_iload_n (pc := 237) 2 dX12_carryOut_237 rfl ?_
                    refine dn_iload (pc := 238) 1 dX12_carryOut_238 rfl ?_
                    refine dn_callV0I (pc := 240) [.int v2, .int v4, .int v6] v22 kRX12_154 (mX6_rotate w x b v22 v2 v4 v6) rfl rfl (Nat.le_of_ble_eq_true rfl) ⟨(Nat.le_of_ble_eq_true rfl), (Nat.le_of_ble_eq_true rfl)⟩ ⟨rfl, rfl, (Nat.le_of_ble_eq_true rfl), (Nat.le_of_ble_eq_true rfl)⟩ dX12_carryOut_240 (fun v23 => ?_)
                    exact dn_ret (Nat.le_of_ble_eq_true rfl) (Nat.le_of_ble_eq_true rfl) rfl dX12_carryOut_243
                  · refine dn_tcase (pc := 57) 10 244 dX12_carryOut_57 (by decide) (by decide) rfl rfl (fun _ => ?_) (fun n57_10 => ?_)
                    · refine dn_aload_n (pc := 244) r0 5 dX12_carryOut_244 rfl ?_
                      refine dn_getR (pc := 245) r0 lRX12_35 dX12_carryOut_245 (fun v20 => ?_)
                      refine dn_iload_n (pc := 248) 3 dX12_carryOut_248 rfl ?_
                      refine dn_iload_n (pc := 249) 2 dX12_carryOut_249 rfl ?_
                      refine dn_callV0I (pc := 250) [.int v2, .int v4] v20 kRX12_157 (mX6_sortRow w x b v20 v2 v4) rfl rfl (Nat.le_of_ble_eq_true rfl) ⟨(Nat.le_of_ble_eq_true rfl), (Nat.le_of_ble_eq_true rfl)⟩ ⟨rfl, rfl, (Nat.le_of_ble_eq_true rfl), (Nat.le_of_ble_eq_true rfl)⟩ dX12_carryOut_250 (fun v21 => ?_)
                      exact dn_ret (Nat.le_of_ble_eq_true rfl) (Nat.le_of_ble_eq_true rfl) rfl dX12_carryOut_253
                    · refine dn_tcase (pc := 57) 11 254 dX12_carryOut_57 (by decide) (by decide) rfl rfl (fun _ => ?_) (fun n57_11 => ?_)
                      · refine dn_aload_n (pc := 254) r0 5 dX12_carryOut_254 rfl ?_
                        refine dn_getR (pc := 255) r0 lRX12_35 dX12_carryOut_255 (fun v18 => ?_)
                        refine dn_iload_n (pc := 258) 3 dX12_carryOut_258 rfl ?_
                        refine dn_iload_n (pc := 259) 2 dX12_carryOut_259 rfl ?_
                        refine dn_iload (pc := 260) 1 dX12_carryOut_260 rfl ?_
                        refine dn_iload (pc := 262) 0 dX12_carryOut_262 rfl ?_
                        refine dn_callV0I (pc := 264) [.int v2, .int v4, .int v6, .int v8] v18 kRX12_160 (mX6_increase w x b v18 v2 v4 v6 v8) rfl rfl (Nat.le_of_ble_eq_true rfl) ⟨(Nat.le_of_ble_eq_true rfl), (Nat.le_of_ble_eq_true rfl)⟩ ⟨rfl, rfl, (Nat.le_of_ble_eq_true rfl), (Nat.le_of_ble_eq_true rfl)⟩ dX12_carryOut_264 (fun v19 => ?_)
                        exact dn_ret (Nat.le_of_ble_eq_true rfl) (Nat.le_of_ble_eq_true rfl) rfl dX12_carryOut_267
                      · refine dn_tcase (pc := 57) 12 268 dX12_carryOut_57 (by decide) (by decide) rfl rfl (fun _ => ?_) (fun n57_12 => ?_)
                        · refine dn_aload_n (pc := 268) r0 5 dX12_carryOut_268 rfl ?_
                          refine dn_getR (pc := 269) r0 lRX12_42 dX12_carryOut_269 (fun v16 => ?_)
                          refine dn_iload_n (pc := 272) 3 dX12_carryOut_272 rfl ?_
                          refine dn_iload_n (pc := 273) 2 dX12_carryOut_273 rfl ?_
                          refine dn_iload (pc := 274) 1 dX12_carryOut_274 rfl ?_
                          refine dn_callV0I (pc := 276) [.int v2, .int v4, .int v6] v16 kRX12_170 (mX11_flatten w x b v16 v2 v4 v6) rfl rfl (Nat.le_of_ble_eq_true rfl) ⟨(Nat.le_of_ble_eq_true rfl), (Nat.le_of_ble_eq_true rfl)⟩ ⟨rfl, rfl, (Nat.le_of_ble_eq_true rfl), (Nat.le_of_ble_eq_true rfl)⟩ dX12_carryOut_276 (fun v17 => ?_)
                          exact dn_ret (Nat.le_of_ble_eq_true rfl) (Nat.le_of_ble_eq_true rfl) rfl dX12_carryOut_279
                        · refine dn_tcase (pc := 57) 13 280 dX12_carryOut_57 (by decide) (by decide) rfl rfl (fun _ => ?_) (fun n57_13 => ?_)
                          · refine dn_aload_n (pc := 280) r0 5 dX12_carryOut_280 rfl ?_
                            refine dn_getR (pc := 281) r0 lRX12_42 dX12_carryOut_281 (fun v14 => ?_)
                            refine dn_iload_n (pc := 284) 3 dX12_carryOut_284 rfl ?_
                            refine dn_iload_n (pc := 285) 2 dX12_carryOut_285 rfl ?_
                            refine dn_iload (pc := 286) 1 dX12_carryOut_286 rfl ?_
                            refine dn_iload (pc := 288) 0 dX12_carryOut_288 rfl ?_
                            refine dn_callV0I (pc := 290) [.int v2, .int v4, .int v6, .int v8] v14 kRX12_173 (mX11_dealOut w x b v14 v2 v4 v6 v8) rfl rfl (Nat.le_of_ble_eq_true rfl) ⟨(Nat.le_of_ble_eq_true rfl), (Nat.le_of_ble_eq_true rfl)⟩ ⟨rfl, rfl, (Nat.le_of_ble_eq_true rfl), (Nat.le_of_ble_eq_true rfl)⟩ dX12_carryOut_290 (fun v15 => ?_)
                            exact dn_ret (Nat.le_of_ble_eq_true rfl) (Nat.le_of_ble_eq_true rfl) rfl dX12_carryOut_293
                          · refine dn_tout (pc := 57) [1, 2, 3, 4, 5, 6, 7, 8, 9, 10, 11, 12, 13] 294 dX12_carryOut_57 (List.forall_mem_cons.mpr ⟨n57_1, (List.forall_mem_cons.mpr ⟨n57_2, (List.forall_mem_cons.mpr ⟨n57_3, (List.forall_mem_cons.mpr ⟨n57_4, (List.forall_mem_cons.mpr ⟨n57_5, (List.forall_mem_cons.mpr ⟨n57_6, (List.forall_mem_cons.mpr ⟨n57_7, (List.forall_mem_cons.mpr ⟨n57_8, (List.forall_mem_cons.mpr ⟨n57_9, (List.forall_mem_cons.mpr ⟨n57_10, (List.forall_mem_cons.mpr ⟨n57_11, (List.forall_mem_cons.mpr ⟨n57_12, (List.forall_mem_cons.mpr ⟨n57_13, (fun _ h => absurd h List.not_mem_nil)⟩)⟩)⟩)⟩)⟩)⟩)⟩)⟩)⟩)⟩)⟩)⟩)⟩) (by decide) rfl ?_
                            refine dn_aload_n (pc := 294) r0 5 dX12_carryOut_294 rfl ?_
                            refine dn_getR (pc := 295) r0 lRX12_42 dX12_carryOut_295 (fun v12 => ?_)
                            refine dn_iload_n (pc := 298) 3 dX12_carryOut_298 rfl ?_
                            refine dn_iload_n (pc := 299) 2 dX12_carryOut_299 rfl ?_
                            refine dn_callV0I (pc := 300) [.int v2, .int v4] v12 kRX12_176 (mX11_transpose w x b v12 v2 v4) rfl rfl (Nat.le_of_ble_eq_true rfl) ⟨(Nat.le_of_ble_eq_true rfl), (Nat.le_of_ble_eq_true rfl)⟩ ⟨rfl, rfl, (Nat.le_of_ble_eq_true rfl), (Nat.le_of_ble_eq_true rfl)⟩ dX12_carryOut_300 (fun v13 => ?_)
                            exact dn_ret (Nat.le_of_ble_eq_true rfl) (Nat.le_of_ble_eq_true rfl) rfl dX12_carryOut_303
abbrev rmX12_plan : Room := { frames := 7, cells := 0, slots := 0, locals := 171 }
def fX12_plan_b21 (c0 : Option Nat) (c1 : Int32) (s21 : Int32) : dnM ((Int32) ⊕ ((Unit) ⊕ Int32)) :=
  if c1 ≤ s21 then
  (dnP (.inr (.inl ())))
  else
  (dnB (dnCv c0 10 (fX12_carryOut c0 s21)) fun v6 =>
  if 0 ≤ v6 then
  (dnP (.inl (s21 + 1)))
  else
  (dnB (dnGR c0 10 0) fun v7 =>
  dnB (dnGR c0 10 1) fun v8 =>
  dnB (dnCv v7 7 (fX9_copyFrom v7 v8)) fun _ =>
  dnB (dnGR c0 10 3) fun v10 =>
  dnB (dnPI v10 1 1 s21) fun _ =>
  dnB (dnCv c0 10 (fX12_tally c0 v6)) fun v11 =>
  dnP (.inr (.inr v11))))
def fX12_plan (r0 : Option Nat) : dnM Int32 :=
  dnB (dnGR r0 10 9) fun v1 =>
  dnB (dnCv v1 2 (fX3_parse v1)) fun v2 =>
  dnB (dnGR r0 10 1) fun v3 =>
  dnB (dnGR r0 10 0) fun v4 =>
  dnB (dnCv v3 7 (fX9_copyFrom v3 v4)) fun _ =>
  dnB (dnIt 1000 (fX12_plan_b21 r0 v2) 0) fun q_ => q_.elim (fun q21 => dnP v2) (fun v_ => dnP v_)
abbrev jX12_plan (w : dnWd) (x : dnX) (b : Nat) := dnD w x b (fun _ => True) cX12_plan RX12 4 rmX12_plan "plan" eI
set_option maxHeartbeats 4000000 in
set_option maxRecDepth 100000 in
theorem mX12_plan (w : dnWd) (x : dnX) (b : Nat) (r0 : Option Nat) : dnMt w x b yX12_plan cX12_plan 4 (some .int) rmX12_plan eI [dnV b r0] (fX12_plan r0) := by
  have hlv : lv_args 0 [dnV b r0] = [(0, dnV b r0)] := by cases r0 <;> rfl
  refine dn_mt (by decide +kernel) roI (by cases r0 <;> exact (Nat.le_of_ble_eq_true rfl)) ?_
  rw [hlv]
  refine dn_top ?_
  show jX12_plan w x b 0 0 0 _ [] (dnB _ dnP)
  unfold fX12_plan
  refine dn_aload_n (pc := 0) r0 0 dX12_plan_0 rfl ?_
  refine dn_getR (pc := 1) r0 lRX12_70 dX12_plan_1 (fun v1 => ?_)
  refine dn_callV0I (pc := 4) [] v1 kRX12_213 (mX3_parse w x b v1) rfl rfl (Nat.le_of_ble_eq_true rfl) ⟨(Nat.le_of_ble_eq_true rfl), (Nat.le_of_ble_eq_true rfl)⟩ ⟨rfl, rfl, (Nat.le_of_ble_eq_true rfl), (Nat.le_of_ble_eq_true rfl)⟩ dX12_plan_4 (fun v2 => ?_)
  refine dn_istore_n (pc := 7) dX12_plan_7 (Nat.le_of_ble_eq_true rfl) (dnKp_nb 0 rfl (dn_cat b _) rfl (dnKp_of (lv2 := []) [] rfl rfl)) ?_
  refine dn_aload_n (pc := 8) r0 1 dX12_plan_8 rfl ?_
  refine dn_getR (pc := 9) r0 lRX12_16 dX12_plan_9 (fun v3 => ?_)
  refine dn_aload_n (pc := 12) r0 1 dX12_plan_12 rfl ?_
  refine dn_getR (pc := 13) r0 lRX12_10 dX12_plan_13 (fun v4 => ?_)
  refine dn_callV0U (pc := 16) [dnV b v4] v3 kRX12_216 (mX9_copyFrom w x b v3 v4) rfl rfl (Nat.le_of_ble_eq_true rfl) ⟨(Nat.le_of_ble_eq_true rfl), (Nat.le_of_ble_eq_true rfl)⟩ ⟨rfl, rfl, (Nat.le_of_ble_eq_true rfl), (Nat.le_of_ble_eq_true rfl)⟩ dX12_plan_16 (fun _ => ?_)
  refine dn_iconst (pc := 19) (v := 0) dX12_plan_19 rfl ?_
  refine dn_istore_n (pc := 20) dX12_plan_20 (Nat.le_of_ble_eq_true rfl) (dnKp_nb 0 rfl rfl rfl (dnKp_of (lv2 := [(0, dnV b r0)]) [1] rfl rfl)) ?_
  refine dn_assoc ?_
  refine dn_lv [2, 1, 0] (lv2 := (fun s => [(0, dnV b r0), (1, .int v2), (2, .int s)]) 0) rfl ?_
  refine dn_loopR (pc := 21) (body := fX12_plan_b21 r0 v2) 67 (fun s => [(0, dnV b r0), (1, .int v2), (2, .int s)]) (fun q => [(1, .int v2)]) (fun s21 K21 E21 hK21 hE21 hR21 => ?_) (dn_rt (Nat.le_of_ble_eq_true rfl) (Nat.le_of_ble_eq_true rfl) (fun _ => rfl)) (fun q21 => ?_) 1000 0
  · unfold fX12_plan_b21
    refine dn_iload_n (pc := 21) 2 dX12_plan_21 rfl ?_
    refine dn_iload_n (pc := 22) 1 dX12_plan_22 rfl ?_
    refine dn_icmp_ge (pc := 23) 67 dX12_plan_23 rfl (fun _ => ?_) (fun _ => ?_)
    · refine dn_leaf ?_
      exact dn_lv [1] rfl (hE21 ())
    · refine dn_aload_n (pc := 26) r0 0 dX12_plan_26 rfl ?_
      refine dn_iload_n (pc := 27) 2 dX12_plan_27 rfl ?_
      refine dn_callV0I (pc := 28) [.int s21] r0 kRX12_220 (mX12_carryOut w x b r0 s21) rfl rfl (Nat.le_of_ble_eq_true rfl) ⟨(Nat.le_of_ble_eq_true rfl), (Nat.le_of_ble_eq_true rfl)⟩ ⟨rfl, rfl, (Nat.le_of_ble_eq_true rfl), (Nat.le_of_ble_eq_true rfl)⟩ dX12_plan_28 (fun v6 => ?_)
      refine dn_istore_n (pc := 31) dX12_plan_31 (Nat.le_of_ble_eq_true rfl) (dnKp_nb 2 rfl rfl rfl (dnKp_of (lv2 := [(0, dnV b r0), (1, .int v2)]) [0, 1] rfl rfl)) ?_
      refine dn_iload_n (pc := 32) 0 dX12_plan_32 rfl ?_
      refine dn_if_ge (pc := 33) 61 dX12_plan_33 rfl (fun _ => ?_) (fun _ => ?_)
      · refine dn_iinc (pc := 61) (s21 + 1) 1 dX12_plan_61 rfl rfl (Nat.le_of_ble_eq_true rfl) (dnKp_nb 3 rfl rfl rfl (dnKp_of (lv2 := [(0, dnV b r0)]) [2] rfl rfl)) ?_
        refine dn_goto (pc := 64) 21 dX12_plan_64 rfl ?_
        refine dn_leaf ?_
        exact dn_lv [2, 1, 0] rfl (hK21 (s21 + 1))
      · refine dn_aload_n (pc := 36) r0 2 dX12_plan_36 rfl ?_
        refine dn_getR (pc := 37) r0 lRX12_10 dX12_plan_37 (fun v7 => ?_)
        refine dn_aload_n (pc := 40) r0 2 dX12_plan_40 rfl ?_
        refine dn_getR (pc := 41) r0 lRX12_16 dX12_plan_41 (fun v8 => ?_)
        refine dn_callV0U (pc := 44) [dnV b v8] v7 kRX12_216 (mX9_copyFrom w x b v7 v8) rfl rfl (Nat.le_of_ble_eq_true rfl) ⟨(Nat.le_of_ble_eq_true rfl), (Nat.le_of_ble_eq_true rfl)⟩ ⟨rfl, rfl, (Nat.le_of_ble_eq_true rfl), (Nat.le_of_ble_eq_true rfl)⟩ dX12_plan_44 (fun _ => ?_)
        refine dn_aload_n (pc := 47) r0 2 dX12_plan_47 rfl ?_
        refine dn_getR (pc := 48) r0 lRX12_26 dX12_plan_48 (fun v10 => ?_)
        refine dn_iload_n (pc := 51) 1 dX12_plan_51 rfl ?_
        refine dn_putI (pc := 52) v10 lRX12_223 dX12_plan_52 ?_
        refine dn_aload_n (pc := 55) r0 2 dX12_plan_55 rfl ?_
        refine dn_iload_n (pc := 56) 0 dX12_plan_56 rfl ?_
        refine dn_callV0I (pc := 57) [.int v6] r0 kRX12_91 (mX12_tally w x b r0 v6) rfl rfl (Nat.le_of_ble_eq_true rfl) ⟨(Nat.le_of_ble_eq_true rfl), (Nat.le_of_ble_eq_true rfl)⟩ ⟨rfl, rfl, (Nat.le_of_ble_eq_true rfl), (Nat.le_of_ble_eq_true rfl)⟩ dX12_plan_57 (fun v11 => ?_)
        refine dn_leaf ?_
        exact hR21 v11 _ _ _ rfl dX12_plan_60
  · dsimp only [Sum.elim_inl]
    refine dn_iload_n (pc := 67) 0 dX12_plan_67 rfl ?_
    exact dn_ret (Nat.le_of_ble_eq_true rfl) (Nat.le_of_ble_eq_true rfl) rfl dX12_plan_68
