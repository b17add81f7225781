abbrev rmX12_pick : Room := { frames := 5, cells := 0, slots := 0, locals := 116 }
def fX12_pick (r0 : Option Nat) (p1 : Int32) (p2 : Int32) (p3 : Int32) : dnM Int32 :=
  dnB (dnGR r0 10 4) fun v1 =>
  dnB (dnCv v1 5 (fX6_pickTrue v1 p1 p2 p3)) fun v2 =>
  dnB (dnCv r0 10 (fX12_tally r0 v2)) fun v3 =>
  dnP v3
abbrev jX12_pick (w : dnWd) (x : dnX) (b : Nat) := dnD w x b (fun _ => True) cX12_pick RX12 4 rmX12_pick "pick" eI
set_option maxHeartbeats 4000000 in
set_option maxRecDepth 100000 in
theorem mX12_pick (w : dnWd) (x : dnX) (b : Nat) (r0 : Option Nat) (p1 : Int32) (p2 : Int32) (p3 : Int32) : dnMt w x b yX12_pick cX12_pick 4 (some .int) rmX12_pick eI [dnV b r0, .int p1, .int p2, .int p3] (fX12_pick r0 p1 p2 p3) := by
  have hlv : lv_args 0 [dnV b r0, .int p1, .int p2, .int p3] = [(0, dnV b r0), (1, .int p1), (2, .int p2), (3, .int p3)] := by cases r0 <;> rfl
  refine dn_mt (by decide +kernel) roI (by cases r0 <;> exact (Nat.le_of_ble_eq_true rfl)) ?_
  rw [hlv]
  refine dn_top ?_
  show jX12_pick w x b 0 0 0 _ [] (dnB _ dnP)
  unfold fX12_pick
  refine dn_aload_n (pc := 0) r0 0 dX12_pick_0 rfl ?_
  refine dn_aload_n (pc := 1) r0 0 dX12_pick_1 rfl ?_
  refine dn_getR (pc := 2) r0 lRX12_35 dX12_pick_2 (fun v1 => ?_)
  refine dn_iload_n (pc := 5) 1 dX12_pick_5 rfl ?_
  refine dn_iload_n (pc := 6) 2 dX12_pick_6 rfl ?_
  refine dn_iload_n (pc := 7) 3 dX12_pick_7 rfl ?_
  refine dn_callV0I (pc := 8) [.int p1, .int p2, .int p3] v1 kRX12_167 (mX6_pickTrue w x b v1 p1 p2 p3) rfl rfl (Nat.le_of_ble_eq_true rfl) ⟨(Nat.le_of_ble_eq_true rfl), (Nat.le_of_ble_eq_true rfl)⟩ ⟨rfl, rfl, (Nat.le_of_ble_eq_true rfl), (Nat.le_of_ble_eq_true rfl)⟩ dX12_pick_8 (fun v2 => ?_)
  refine dn_callV0I (pc := 11) [.int v2] r0 kRX12_91 (mX12_tally w x b r0 v2) rfl rfl (Nat.le_of_ble_eq_true rfl) ⟨(Nat.le_of_ble_eq_true rfl), (Nat.le_of_ble_eq_true rfl)⟩ ⟨rfl, rfl, (Nat.le_of_ble_eq_true rfl), (Nat.le_of_ble_eq_true rfl)⟩ dX12_pick_11 (fun v3 => ?_)
  exact dn_ret (Nat.le_of_ble_eq_true rfl) (Nat.le_of_ble_eq_true rfl) rfl dX12_pick_14
abbrev rmX3_endOfRun : Room := { frames := 0, cells := 0, slots := 0, locals := 0 }
def fX3_endOfRun_b3 (c0 : Option Nat) (c2 : Int32) (c3 : Int32) (s3 : Int32) : dnM ((Int32) ⊕ (Int32)) :=
  dnB (dnGI c0 2 1) fun v1 =>
  if v1 ≤ s3 then
  (dnP (.inr s3))
  else
  (dnB (dnGR c0 2 0) fun v2 =>
  dnB (dnAI v2 101 s3) fun v3 =>
  if v3 < c2 then
  (dnP (.inr s3))
  else
  (dnB (dnGR c0 2 0) fun v4 =>
  dnB (dnAI v4 101 s3) fun v5 =>
  if c3 < v5 then
  (dnP (.inr s3))
  else
  (dnP (.inl (s3 + 1)))))
def fX3_endOfRun (r0 : Option Nat) (p1 : Int32) (p2 : Int32) (p3 : Int32) : dnM Int32 :=
  dnB (dnIt 1000 (fX3_endOfRun_b3 r0 p2 p3) p1) fun q3 =>
  dnP q3
abbrev jX3_endOfRun (w : dnWd) (x : dnX) (b : Nat) := dnD w x b (fun _ => True) cX3_endOfRun RX3 5 rmX3_endOfRun "endOfRun" eI
set_option maxHeartbeats 4000000 in
set_option maxRecDepth 100000 in
theorem mX3_endOfRun (w : dnWd) (x : dnX) (b : Nat) (r0 : Option Nat) (p1 : Int32) (p2 : Int32) (p3 : Int32) : dnMt w x b yX3_endOfRun cX3_endOfRun 5 (some .int) rmX3_endOfRun eI [dnV b r0, .int p1, .int p2, .int p3] (fX3_endOfRun r0 p1 p2 p3) := by
  have hlv : lv_args 0 [dnV b r0, .int p1, .int p2, .int p3] = [(0, dnV b r0), (1, .int p1), (2, .int p2), (3, .int p3)] := by cases r0 <;> rfl
  refine dn_mt (by decide +kernel) roI (by cases r0 <;> exact (Nat.le_of_ble_eq_true rfl)) ?_
  rw [hlv]
  refine dn_top ?_
  show jX3_endOfRun w x b 0 0 0 _ [] (dnB _ dnP)
  unfold fX3_endOfRun
  refine dn_iload_n (pc := 0) 1 dX3_endOfRun_0 rfl ?_
  refine dn_istore (pc := 1) dX3_endOfRun_1 (Nat.le_of_ble_eq_true rfl) (dnKp_nb 3 rfl rfl rfl (dnKp_of (lv2 := [(0, dnV b r0), (2, .int p2)]) [0, 2] rfl rfl)) ?_
  refine dn_assoc ?_
  refine dn_lv [2, 3, 1, 0] (lv2 := (fun s => [(0, dnV b r0), (2, .int p2), (3, .int p3), (4, .int s)]) p1) rfl ?_
  refine dn_loopE (pc := 3) (body := fX3_endOfRun_b3 r0 p2 p3) 40 (fun s => [(0, dnV b r0), (2, .int p2), (3, .int p3), (4, .int s)]) (fun q => [(4, .int q)]) (fun s3 K3 E3 hK3 hE3 => ?_) (fun q3 => ?_) 1000 p1
  · unfold fX3_endOfRun_b3
    refine dn_iload (pc := 3) 3 dX3_endOfRun_3 rfl ?_
    refine dn_aload_n (pc := 5) r0 0 dX3_endOfRun_5 rfl ?_
    refine dn_getI (pc := 6) r0 lRX3_15 dX3_endOfRun_6 (fun v1 => ?_)
    refine dn_icmp_ge (pc := 9) 40 dX3_endOfRun_9 rfl (fun _ => ?_) (fun _ => ?_)
    · refine dn_leaf ?_
      exact dn_lv [3] rfl (hE3 s3)
    · refine dn_aload_n (pc := 12) r0 0 dX3_endOfRun_12 rfl ?_
      refine dn_getR (pc := 13) r0 lRX3_9 dX3_endOfRun_13 (fun v2 => ?_)
      refine dn_iload (pc := 16) 3 dX3_endOfRun_16 rfl ?_
      refine dn_cald (pc := 18) v2 dX3_endOfRun_18 (fun v3 => ?_)
      refine dn_iload_n (pc := 19) 1 dX3_endOfRun_19 rfl ?_
      refine dn_icmp_lt (pc := 20) 40 dX3_endOfRun_20 rfl (fun _ => ?_) (fun _ => ?_)
      · refine dn_leaf ?_
        exact dn_lv [3] rfl (hE3 s3)
      · refine dn_aload_n (pc := 23) r0 0 dX3_endOfRun_23 rfl ?_
        refine dn_getR (pc := 24) r0 lRX3_9 dX3_endOfRun_24 (fun v4 => ?_)
        refine dn_iload (pc := 27) 3 dX3_endOfRun_27 rfl ?_
        refine dn_cald (pc := 29) v4 dX3_endOfRun_29 (fun v5 => ?_)
        refine dn_iload_n (pc := 30) 2 dX3_endOfRun_30 rfl ?_
        refine dn_icmp_gt (pc := 31) 40 dX3_endOfRun_31 rfl (fun _ => ?_) (fun _ => ?_)
        · refine dn_leaf ?_
          exact dn_lv [3] rfl (hE3 s3)
        · refine dn_iinc (pc := 34) (s3 + 1) 3 dX3_endOfRun_34 rfl rfl (Nat.le_of_ble_eq_true rfl) (dnKp_nb 2 rfl rfl rfl (dnKp_of (lv2 := [(0, dnV b r0), (2, .int p2)]) [0, 1] rfl rfl)) ?_
          refine dn_goto (pc := 37) 3 dX3_endOfRun_37 rfl ?_
          refine dn_leaf ?_
          exact dn_lv [2, 3, 1, 0] rfl (hK3 (s3 + 1))
  · refine dn_iload (pc := 40) 0 dX3_endOfRun_40 rfl ?_
    exact dn_ret (Nat.le_of_ble_eq_true rfl) (Nat.le_of_ble_eq_true rfl) rfl dX3_endOfRun_42
abbrev rmX3_endOfDigits : Room := { frames := 1, cells := 0, slots := 0, locals := 24 }
def fX3_endOfDigits (r0 : Option Nat) (p1 : Int32) : dnM Int32 :=
  dnB (dnCv r0 2 (fX3_endOfRun r0 p1 48 57)) fun v1 =>
  dnP v1
abbrev jX3_endOfDigits (w : dnWd) (x : dnX) (b : Nat) := dnD w x b (fun _ => True) cX3_endOfDigits RX3 2 rmX3_endOfDigits "endOfDigits" eI
set_option maxHeartbeats 4000000 in
set_option maxRecDepth 100000 in
theorem mX3_endOfDigits (w : dnWd) (x : dnX) (b : Nat) (r0 : Option Nat) (p1 : Int32) : dnMt w x b yX3_endOfDigits cX3_endOfDigits 2 (some .int) rmX3_endOfDigits eI [dnV b r0, .int p1] (fX3_endOfDigits r0 p1) := by
  have hlv : lv_args 0 [dnV b r0, .int p1] = [(0, dnV b r0), (1, .int p1)] := by cases r0 <;> rfl
  refine dn_mt (by decide +kernel) roI (by cases r0 <;> exact (Nat.le_of_ble_eq_true rfl)) ?_
  rw [hlv]
  refine dn_top ?_
  show jX3_endOfDigits w x b 0 0 0 _ [] (dnB _ dnP)
  unfold fX3_endOfDigits
  refine dn_aload_n (pc := 0) r0 0 dX3_endOfDigits_0 rfl ?_
  refine dn_iload_n (pc := 1) 1 dX3_endOfDigits_1 rfl ?_
  refine dn_bipush (pc := 2) (v := 48) dX3_endOfDigits_2 rfl ?_
  refine dn_bipush (pc := 4) (v := 57) dX3_endOfDigits_4 rfl ?_
  refine dn_callV0I (pc := 6) [.int p1, .int 48, .int 57] r0 kRX3_68 (mX3_endOfRun w x b r0 p1 48 57) rfl rfl (Nat.le_of_ble_eq_true rfl) ⟨(Nat.le_of_ble_eq_true rfl), (Nat.le_of_ble_eq_true rfl)⟩ ⟨rfl, rfl, (Nat.le_of_ble_eq_true rfl), (Nat.le_of_ble_eq_true rfl)⟩ dX3_endOfDigits_6 (fun v1 => ?_)
  exact dn_ret (Nat.le_of_ble_eq_true rfl) (Nat.le_of_ble_eq_true rfl) rfl dX3_endOfDigits_9
abbrev rmX3_endOfLetters : Room := { frames := 1, cells := 0, slots := 0, locals := 24 }
def fX3_endOfLetters (r0 : Option Nat) (p1 : Int32) : dnM Int32 :=
  dnB (dnCv r0 2 (fX3_endOfRun r0 p1 97 122)) fun v1 =>
  dnP v1
abbrev jX3_endOfLetters (w : dnWd) (x : dnX) (b : Nat) := dnD w x b (fun _ => True) cX3_endOfLetters RX3 2 rmX3_endOfLetters "endOfLetters" eI
set_option maxHeartbeats 4000000 in
set_option maxRecDepth 100000 in
theorem mX3_endOfLetters (w : dnWd) (x : dnX) (b : Nat) (r0 : Option Nat) (p1 : Int32) : dnMt w x b yX3_endOfLetters cX3_endOfLetters 2 (some .int) rmX3_endOfLetters eI [dnV b r0, .int p1] (fX3_endOfLetters r0 p1) := by
  have hlv : lv_args 0 [dnV b r0, .int p1] = [(0, dnV b r0), (1, .int p1)] := by cases r0 <;> rfl
  refine dn_mt (by decide +kernel) roI (by cases r0 <;> exact (Nat.le_of_ble_eq_true rfl)) ?_
  rw [hlv]
  refine dn_top ?_
  show jX3_endOfLetters w x b 0 0 0 _ [] (dnB _ dnP)
  unfold fX3_endOfLetters
  refine dn_aload_n (pc := 0) r0 0 dX3_endOfLetters_0 rfl ?_
  refine dn_iload_n (pc := 1) 1 dX3_endOfLetters_1 rfl ?_
  refine dn_bipush (pc := 2) (v := 97) dX3_endOfLetters_2 rfl ?_
  refine dn_bipush (pc := 4) (v := 122) dX3_endOfLetters_4 rfl ?_
  refine dn_callV0I (pc := 6) [.int p1, .int 97, .int 122] r0 kRX3_68 (mX3_endOfRun w x b r0 p1 97 122) rfl rfl (Nat.le_of_ble_eq_true rfl) ⟨(Nat.le_of_ble_eq_true rfl), (Nat.le_of_ble_eq_true rfl)⟩ ⟨rfl, rfl, (Nat.le_of_ble_eq_true rfl), (Nat.le_of_ble_eq_true rfl)⟩ dX3_endOfLetters_6 (fun v1 => ?_)
  exact dn_ret (Nat.le_of_ble_eq_true rfl) (Nat.le_of_ble_eq_true rfl) rfl dX3_endOfLetters_9
abbrev rmX3_endOfSpaces : Room := { frames := 1, cells := 0, slots := 0, locals := 24 }
def fX3_endOfSpaces (r0 : Option Nat) (p1 : Int32) : dnM Int32 :=
  dnB (dnCv r0 2 (fX3_endOfRun r0 p1 32 32)) fun v1 =>
  dnP v1
abbrev jX3_endOfSpaces (w : dnWd) (x : dnX) (b : Nat) := dnD w x b (fun _ => True) cX3_endOfSpaces RX3 2 rmX3_endOfSpaces "endOfSpaces" eI
set_option maxHeartbeats 4000000 in
set_option maxRecDepth 100000 in
theorem mX3_endOfSpaces (w : dnWd) (x : dnX) (b : Nat) (r0 : Option Nat) (p1 : Int32) : dnMt w x b yX3_endOfSpaces cX3_endOfSpaces 2 (some .int) rmX3_endOfSpaces eI [dnV b r0, .int p1] (fX3_endOfSpaces r0 p1) := by
  have hlv : lv_args 0 [dnV b r0, .int p1] = [(0, dnV b r0), (1, .int p1)] := by cases r0 <;> rfl
  refine dn_mt (by decide +kernel) roI (by cases r0 <;> exact (Nat.le_of_ble_eq_true rfl)) ?_
  rw [hlv]
  refine dn_top ?_
  show jX3_endOfSpaces w x b 0 0 0 _ [] (dnB _ dnP)
  unfold fX3_endOfSpaces
  refine dn_aload_n (pc := 0) r0 0 dX3_endOfSpaces_0 rfl ?_
  refine dn_iload_n (pc := 1) 1 dX3_endOfSpaces_1 rfl ?_
  refine dn_bipush (pc := 2) (v := 32) dX3_endOfSpaces_2 rfl ?_
  refine dn_bipush (pc := 4) (v := 32) dX3_endOfSpaces_4 rfl ?_
  refine dn_callV0I (pc := 6) [.int p1, .int 32, .int 32] r0 kRX3_68 (mX3_endOfRun w x b r0 p1 32 32) rfl rfl (Nat.le_of_ble_eq_true rfl) ⟨(Nat.le_of_ble_eq_true rfl), (Nat.le_of_ble_eq_true rfl)⟩ ⟨rfl, rfl, (Nat.le_of_ble_eq_true rfl), (Nat.le_of_ble_eq_true rfl)⟩ dX3_endOfSpaces_6 (fun v1 => ?_)
  exact dn_ret (Nat.le_of_ble_eq_true rfl) (Nat.le_of_ble_eq_true rfl) rfl dX3_endOfSpaces_9
abbrev rmX3_numberIn : Room := { frames := 0, cells := 0, slots := 0, locals := 0 }
def fX3_numberIn_b5 (c0 : Option Nat) (c2 : Int32) (s5 : Int32 × Int32) : dnM ((Int32 × Int32) ⊕ (Int32)) :=
  if c2 ≤ s5.2 then
  (dnP (.inr s5.1))
  else
  (dnB (dnGR c0 2 0) fun v1 =>
  dnB (dnAI v1 101 s5.2) fun v2 =>
  dnP (.inl ((((10 * s5.1) + v2) - 48), (s5.2 + 1))))
def fX3_numberIn (r0 : Option Nat) (p1 : Int32) (p2 : Int32) : dnM Int32 :=
  dnB (dnIt 1000 (fX3_numberIn_b5 r0 p2) (0, p1)) fun q5 =>
  dnP q5
abbrev jX3_numberIn (w : dnWd) (x : dnX) (b : Nat) := dnD w x b (fun _ => True) cX3_numberIn RX3 5 rmX3_numberIn "numberIn" eI
set_option maxHeartbeats 4000000 in
set_option maxRecDepth 100000 in
theorem mX3_numberIn (w : dnWd) (x : dnX) (b : Nat) (r0 : Option Nat) (p1 : Int32) (p2 : Int32) : dnMt w x b yX3_numberIn cX3_numberIn 5 (some .int) rmX3_numberIn eI [dnV b r0, .int p1, .int p2] (fX3_numberIn r0 p1 p2) := by
  have hlv : lv_args 0 [dnV b r0, .int p1, .int p2] = [(0, dnV b r0), (1, .int p1), (2, .int p2)] := by cases r0 <;> rfl
  refine dn_mt (by decide +kernel) roI (by cases r0 <;> exact (Nat.le_of_ble_eq_true rfl)) ?_
  rw [hlv]
  refine dn_top ?_
  show jX3_numberIn w x b 0 0 0 _ [] (dnB _ dnP)
  unfold fX3_numberIn
  refine dn_iconst (pc := 0) (v := 0) dX3_numberIn_0 rfl ?_
  refine dn_istore_n (pc := 1) dX3_numberIn_1 (Nat.le_of_ble_eq_true rfl) (dnKp_nb 2 rfl rfl rfl (dnKp_of (lv2 := [(0, dnV b r0), (1, .int p1)]) [0, 1] rfl rfl)) ?_
  refine dn_iload_n (pc := 2) 3 dX3_numberIn_2 rfl ?_
  refine dn_istore (pc := 3) dX3_numberIn_3 (Nat.le_of_ble_eq_true rfl) (dnKp_nb 0 rfl rfl rfl (dnKp_of (lv2 := [(2, .int p2), (0, dnV b r0)]) [1, 2] rfl rfl)) ?_
  refine dn_assoc ?_
  refine dn_lv [3, 2, 1, 0] (lv2 := (fun s => [(0, dnV b r0), (2, .int p2), (3, .int s.1), (4, .int s.2)]) (0, p1)) rfl ?_
  refine dn_loopE (pc := 5) (body := fX3_numberIn_b5 r0 p2) 33 (fun s => [(0, dnV b r0), (2, .int p2), (3, .int s.1), (4, .int s.2)]) (fun q => [(3, .int q)]) (fun s5 K5 E5 hK5 hE5 => ?_) (fun q5 => ?_) 1000 (0, p1)
  · unfold fX3_numberIn_b5
    refine dn_iload (pc := 5) 3 dX3_numberIn_5 rfl ?_
    refine dn_iload_n (pc := 7) 1 dX3_numberIn_7 rfl ?_
    refine dn_icmp_ge (pc := 8) 33 dX3_numberIn_8 rfl (fun _ => ?_) (fun _ => ?_)
    · refine dn_leaf ?_
      exact dn_lv [2] rfl (hE5 s5.1)
    · refine dn_bipush (pc := 11) (v := 10) dX3_numberIn_11 rfl ?_
      refine dn_iload_n (pc := 13) 2 dX3_numberIn_13 rfl ?_
      refine dn_imul (pc := 14) dX3_numberIn_14 ?_
      refine dn_aload_n (pc := 15) r0 0 dX3_numberIn_15 rfl ?_
      refine dn_getR (pc := 16) r0 lRX3_9 dX3_numberIn_16 (fun v1 => ?_)
      refine dn_iload (pc := 19) 3 dX3_numberIn_19 rfl ?_
      refine dn_cald (pc := 21) v1 dX3_numberIn_21 (fun v2 => ?_)
      refine dn_iadd (pc := 22) dX3_numberIn_22 ?_
      refine dn_bipush (pc := 23) (v := 48) dX3_numberIn_23 rfl ?_
      refine dn_isub (pc := 25) dX3_numberIn_25 ?_
      refine dn_istore_n (pc := 26) dX3_numberIn_26 (Nat.le_of_ble_eq_true rfl) (dnKp_nb 1 rfl rfl rfl (dnKp_of (lv2 := [(0, dnV b r0), (4, .int s5.2)]) [0, 3] rfl rfl)) ?_
      refine dn_iinc (pc := 27) (s5.2 + 1) 3 dX3_numberIn_27 rfl rfl (Nat.le_of_ble_eq_true rfl) (dnKp_nb 0 rfl rfl rfl (dnKp_of (lv2 := [(2, .int p2), (0, dnV b r0)]) [1, 2] rfl rfl)) ?_
      refine dn_goto (pc := 30) 5 dX3_numberIn_30 rfl ?_
      refine dn_leaf ?_
      exact dn_lv [3, 2, 1, 0] rfl (hK5 ((((10 * s5.1) + v2) - 48), (s5.2 + 1)))
  · refine dn_iload_n (pc := 33) 0 dX3_numberIn_33 rfl ?_
    exact dn_ret (Nat.le_of_ble_eq_true rfl) (Nat.le_of_ble_eq_true rfl) rfl dX3_numberIn_34
abbrev rmX6_pourInto : Room := { frames := 4, cells := 0, slots := 0, locals := 87 }
def fX6_pourInto_j146 (l0 : Option Nat) (l5 : Option Nat) (l6 : Option Nat) (l7 : Int32) (l8 : Int32) : dnM ((Int32 × Int32) ⊕ (Int32)) :=
  dnP (.inl (l7, (l8 + 1)))
def fX6_pourInto_b85 (c0 : Option Nat) (c5 : Option Nat) (c6 : Option Nat) (s85 : Int32 × Int32) : dnM ((Int32 × Int32) ⊕ (Int32)) :=
  dnB (dnGI c5 4 2) fun v14 =>
  if v14 ≤ s85.2 then
  (dnP (.inr s85.1))
  else
  (dnB (dnGI c6 4 2) fun v15 =>
  if v15 ≤ s85.2 then
  (dnP (.inr s85.1))
  else
  (dnB (dnCv c6 4 (fX5_accept c6 s85.2 c5 s85.2)) fun v16 =>
  if v16 = true then
  (fX6_pourInto_j146 c0 c5 c6 (s85.1 + 1) s85.2)
  else
  (dnB (dnGR c0 5 1) fun v17 =>
  dnB (dnGI v17 1 1) fun v18 =>
  if ¬ v18 = (-9) then
  (fX6_pourInto_j146 c0 c5 c6 s85.1 s85.2)
  else
  (dnB (dnGR c0 5 1) fun v19 =>
  dnB (dnPI v19 1 1 s85.2) fun _ =>
  fX6_pourInto_j146 c0 c5 c6 s85.1 s85.2))))
def fX6_pourInto (r0 : Option Nat) (p1 : Int32) (p2 : Int32) (p3 : Int32) (p4 : Int32) : dnM Int32 :=
  dnB (fX12_isGrid p1) fun v1 =>
  if v1 = true then
  (dnB (fX12_isGrid p3) fun v2 =>
  if v2 = true then
  (dnB (dnGR r0 5 0) fun v3 =>
  dnB (dnCv v3 7 (fX9_rowAt v3 p1 p2)) fun v4 =>
  v4.elim
  (dnB (dnGR r0 5 0) fun v6 =>
  dnB (dnCv v6 7 (fX9_rowFault v6 p1 p2)) fun v7 =>
  dnP v7)
  (fun v5 => dnB (dnGR r0 5 0) fun v8 =>
  dnB (dnCv v8 7 (fX9_rowAt v8 p3 p4)) fun v9 =>
  v9.elim
  (dnB (dnGR r0 5 0) fun v11 =>
  dnB (dnCv v11 7 (fX9_rowFault v11 p3 p4)) fun v12 =>
  dnP v12)
  (fun v10 => dnB (dnGR r0 5 1) fun v13 =>
  dnB (dnPI v13 1 1 (-9)) fun _ =>
  dnB (dnIt 1000 (fX6_pourInto_b85 r0 (some v5) (some v10)) (0, 0)) fun q85 =>
  dnP q85)))
  else
  (dnP (-1)))
  else
  (dnP (-1))
abbrev jX6_pourInto (w : dnWd) (x : dnX) (b : Nat) := dnD w x b (fun _ => True) cX6_pourInto RX6 9 rmX6_pourInto "pourInto" eI
set_option maxHeartbeats 4000000 in
set_option maxRecDepth 100000 in
theorem mX6_pourInto (w : dnWd) (x : dnX) (b : Nat) (r0 : Option Nat) (p1 : Int32) (p2 : Int32) (p3 : Int32) (p4 : Int32) : dnMt w x b yX6_pourInto cX6_pourInto 9 (some .int) rmX6_pourInto eI [dnV b r0, .int p1, .int p2, .int p3, .int p4] (fX6_pourInto r0 p1 p2 p3 p4) := by
  have hlv : lv_args 0 [dnV b r0, .int p1, .int p2, .int p3, .int p4] = [(0, dnV b r0), (1, .int p1), (2, .int p2), (3, .int p3), (4, .int p4)] := by cases r0 <;> rfl
  refine dn_mt (by decide +kernel) roI (by cases r0 <;> exact (Nat.le_of_ble_eq_true rfl)) ?_
  rw [hlv]
  refine dn_top ?_
  show jX6_pourInto w x b 0 0 0 _ [] (dnB _ dnP)
  unfold fX6_pourInto
  refine dn_iload_n (pc := 0) 1 dX6_pourInto_0 rfl ?_
  refine dn_callSN0Z (pc := 1) [.int p1]  kRX6_31 (mX12_isGrid w x b p1) rfl rfl (Nat.le_of_ble_eq_true rfl) ⟨(Nat.le_of_ble_eq_true rfl), (Nat.le_of_ble_eq_true rfl)⟩ ⟨rfl, rfl, (Nat.le_of_ble_eq_true rfl), (Nat.le_of_ble_eq_true rfl)⟩ dX6_pourInto_1 (fun v1 => ?_)
  refine dn_ifz_eq (pc := 4) 14 dX6_pourInto_4 rfl (fun _ => ?_) (fun _ => ?_)
  · refine dn_iload_n (pc := 7) 3 dX6_pourInto_7 rfl ?_
    refine dn_callSN0Z (pc := 8) [.int p3]  kRX6_31 (mX12_isGrid w x b p3) rfl rfl (Nat.le_of_ble_eq_true rfl) ⟨(Nat.le_of_ble_eq_true rfl), (Nat.le_of_ble_eq_true rfl)⟩ ⟨rfl, rfl, (Nat.le_of_ble_eq_true rfl), (Nat.le_of_ble_eq_true rfl)⟩ dX6_pourInto_8 (fun v2 => ?_)
    refine dn_ifz_ne (pc := 11) 16 dX6_pourInto_11 rfl (fun _ => ?_) (fun _ => ?_)
    · refine dn_aload_n (pc := 16) r0 0 dX6_pourInto_16 rfl ?_
      refine dn_getR (pc := 17) r0 lRX6_23 dX6_pourInto_17 (fun v3 => ?_)
      refine dn_iload_n (pc := 20) 1 dX6_pourInto_20 rfl ?_
      refine dn_iload_n (pc := 21) 2 dX6_pourInto_21 rfl ?_
      refine dn_callV0R (pc := 22) [.int p1, .int p2] v3 kRX6_35 (mX9_rowAt w x b v3 p1 p2) rfl rfl (Nat.le_of_ble_eq_true rfl) ⟨(Nat.le_of_ble_eq_true rfl), (Nat.le_of_ble_eq_true rfl)⟩ ⟨rfl, rfl, (Nat.le_of_ble_eq_true rfl), (Nat.le_of_ble_eq_true rfl)⟩ dX6_pourInto_22 (fun v4 => ?_)
      refine dn_astore (pc := 25) v4 dX6_pourInto_25 (Nat.le_of_ble_eq_true rfl) (dnKp_nb 4 rfl rfl rfl (dnKp_of (lv2 := [(0, dnV b r0), (1, .int p1), (2, .int p2), (3, .int p3)]) [0, 1, 2, 3] rfl rfl)) ?_
      refine dn_aload (pc := 27) v4 0 dX6_pourInto_27 rfl ?_
      refine dn_ifnonnull (pc := 29) v4 42 dX6_pourInto_29 rfl (fun e_ => ?_) (fun v5 e_ => ?_)
      · subst e_
        refine dn_aload_n (pc := 32) r0 2 dX6_pourInto_32 rfl ?_
        refine dn_getR (pc := 33) r0 lRX6_23 dX6_pourInto_33 (fun v6 => ?_)
        refine dn_iload_n (pc := 36) 3 dX6_pourInto_36 rfl ?_
        refine dn_iload_n (pc := 37) 4 dX6_pourInto_37 rfl ?_
        refine dn_callV0I (pc := 38) [.int p1, .int p2] v6 kRX6_41 (mX9_rowFault w x b v6 p1 p2) rfl rfl (Nat.le_of_ble_eq_true rfl) ⟨(Nat.le_of_ble_eq_true rfl), (Nat.le_of_ble_eq_true rfl)⟩ ⟨rfl, rfl, (Nat.le_of_ble_eq_true rfl), (Nat.le_of_ble_eq_true rfl)⟩ dX6_pourInto_38 (fun v7 => ?_)
        exact dn_ret (Nat.le_of_ble_eq_true rfl) (Nat.le_of_ble_eq_true rfl) rfl dX6_pourInto_41
      · subst e_
        refine dn_aload_n (pc := 42) r0 2 dX6_pourInto_42 rfl ?_
        refine dn_getR (pc := 43) r0 lRX6_23 dX6_pourInto_43 (fun v8 => ?_)
        refine dn_iload_n (pc := 46) 5 dX6_pourInto_46 rfl ?_
        refine dn_iload (pc := 47) 1 dX6_pourInto_47 rfl ?_
        refine dn_callV0R (pc := 49) [.int p3, .int p4] v8 kRX6_35 (mX9_rowAt w x b v8 p3 p4) rfl rfl (Nat.le_of_ble_eq_true rfl) ⟨(Nat.le_of_ble_eq_true rfl), (Nat.le_of_ble_eq_true rfl)⟩ ⟨rfl, rfl, (Nat.le_of_ble_eq_true rfl), (Nat.le_of_ble_eq_true rfl)⟩ dX6_pourInto_49 (fun v9 => ?_)
        refine dn_astore (pc := 52) v9 dX6_pourInto_52 (Nat.le_of_ble_eq_true rfl) (dnKp_nb 0 rfl (dn_cat b _) rfl (dnKp_of (lv2 := [(4, .int p4), (0, dnV b r0), (3, .int p3)]) [1, 2, 5] rfl rfl)) ?_
        refine dn_aload (pc := 54) v9 0 dX6_pourInto_54 rfl ?_
        refine dn_ifnonnull (pc := 56) v9 70 dX6_pourInto_56 rfl (fun e_ => ?_) (fun v10 e_ => ?_)
        · subst e_
          refine dn_aload_n (pc := 59) r0 3 dX6_pourInto_59 rfl ?_
          refine dn_getR (pc := 60) r0 lRX6_23 dX6_pourInto_60 (fun v11 => ?_)
          refine dn_iload_n (pc := 63) 4 dX6_pourInto_63 rfl ?_
          refine dn_iload (pc := 64) 2 dX6_pourInto_64 rfl ?_
          refine dn_callV0I (pc := 66) [.int p3, .int p4] v11 kRX6_41 (mX9_rowFault w x b v11 p3 p4) rfl rfl (Nat.le_of_ble_eq_true rfl) ⟨(Nat.le_of_ble_eq_true rfl), (Nat.le_of_ble_eq_true rfl)⟩ ⟨rfl, rfl, (Nat.le_of_ble_eq_true rfl), (Nat.le_of_ble_eq_true rfl)⟩ dX6_pourInto_66 (fun v12 => ?_)
          exact dn_ret (Nat.le_of_ble_eq_true rfl) (Nat.le_of_ble_eq_true rfl) rfl dX6_pourInto_69
        · subst e_
          refine dn_iconst (pc := 70) (v := 0) dX6_pourInto_70 rfl ?_
          refine dn_istore (pc := 71) dX6_pourInto_71 (Nat.le_of_ble_eq_true rfl) (dnKp_nb 0 rfl (dn_cat b _) rfl (dnKp_of (lv2 := [(5, dnV b (some v5)), (0, dnV b r0)]) [1, 3] rfl rfl)) ?_
          refine dn_aload_n (pc := 73) r0 3 dX6_pourInto_73 rfl ?_
          refine dn_getR (pc := 74) r0 lRX6_27 dX6_pourInto_74 (fun v13 => ?_)
          refine dn_bipush (pc := 77) (v := -9) dX6_pourInto_77 rfl ?_
          refine dn_putI (pc := 79) v13 lRX6_115 dX6_pourInto_79 ?_
          refine dn_iconst (pc := 82) (v := 0) dX6_pourInto_82 rfl ?_
          refine dn_istore (pc := 83) dX6_pourInto_83 (Nat.le_of_ble_eq_true rfl) (dnKp_nb 0 rfl rfl rfl (dnKp_of (lv2 := [(6, dnV b (some v10)), (5, dnV b (some v5)), (0, dnV b r0)]) [1, 2, 3] rfl rfl)) ?_
          refine dn_assoc ?_
          refine dn_lv [4, 3, 2, 1, 0] (lv2 := (fun s => [(0, dnV b r0), (5, dnV b (some v5)), (6, dnV b (some v10)), (7, .int s.1), (8, .int s.2)]) (0, 0)) rfl ?_
          refine dn_loopE (pc := 85) (body := fX6_pourInto_b85 r0 (some v5) (some v10)) 152 (fun s => [(0, dnV b r0), (5, dnV b (some v5)), (6, dnV b (some v10)), (7, .int s.1), (8, .int s.2)]) (fun q => [(7, .int q)]) (fun s85 K85 E85 hK85 hE85 => ?_) (fun q85 => ?_) 1000 (0, 0)
          · unfold fX6_pourInto_b85
            have hj146 : ∀ (l7 : Int32) (l8 : Int32), jX6_pourInto w x b 146 0 0 [(0, dnV b r0), (5, dnV b (some v5)), (6, dnV b (some v10)), (7, .int l7), (8, .int l8)] [] (dnB (fX6_pourInto_j146 r0 (some v5) (some v10) l7 l8) (dnKo K85 E85)) := by
              intro l7 l8
              unfold fX6_pourInto_j146
              refine dn_iinc (pc := 146) (l8 + 1) 4 dX6_pourInto_146 rfl rfl (Nat.le_of_ble_eq_true rfl) (dnKp_nb 3 rfl rfl rfl (dnKp_of (lv2 := [(0, dnV b r0), (5, dnV b (some v5)), (6, dnV b (some v10))]) [0, 1, 2] rfl rfl)) ?_
              refine dn_goto (pc := 149) 85 dX6_pourInto_149 rfl ?_
              refine dn_leaf ?_
              exact dn_lv [2, 3, 4, 1, 0] rfl (hK85 (l7, (l8 + 1)))
            refine dn_iload (pc := 85) 4 dX6_pourInto_85 rfl ?_
            refine dn_aload (pc := 87) (some v5) 1 dX6_pourInto_87 rfl ?_
            refine dn_getI (pc := 89) (some v5) lRX6_92 dX6_pourInto_89 (fun v14 => ?_)
            refine dn_icmp_ge (pc := 92) 152 dX6_pourInto_92 rfl (fun _ => ?_) (fun _ => ?_)
            · refine dn_leaf ?_
              exact dn_lv [3] rfl (hE85 s85.1)
            · refine dn_iload (pc := 95) 4 dX6_pourInto_95 rfl ?_
              refine dn_aload (pc := 97) (some v10) 2 dX6_pourInto_97 rfl ?_
              refine dn_getI (pc := 99) (some v10) lRX6_92 dX6_pourInto_99 (fun v15 => ?_)
              refine dn_icmp_ge (pc := 102) 152 dX6_pourInto_102 rfl (fun _ => ?_) (fun _ => ?_)
              · refine dn_leaf ?_
                exact dn_lv [3] rfl (hE85 s85.1)
              · refine dn_aload (pc := 105) (some v10) 2 dX6_pourInto_105 rfl ?_
                refine dn_iload (pc := 107) 4 dX6_pourInto_107 rfl ?_
                refine dn_aload (pc := 109) (some v5) 1 dX6_pourInto_109 rfl ?_
                refine dn_iload (pc := 111) 4 dX6_pourInto_111 rfl ?_
                refine dn_callV0Z (pc := 113) [.int s85.2, dnV b (some v5), .int s85.2] (some v10) kRX6_60 (mX5_accept w x b (some v10) s85.2 (some v5) s85.2) rfl rfl (Nat.le_of_ble_eq_true rfl) ⟨(Nat.le_of_ble_eq_true rfl), (Nat.le_of_ble_eq_true rfl)⟩ ⟨rfl, rfl, (Nat.le_of_ble_eq_true rfl), (Nat.le_of_ble_eq_true rfl)⟩ dX6_pourInto_113 (fun v16 => ?_)
                refine dn_ifz_eq (pc := 116) 125 dX6_pourInto_116 rfl (fun _ => ?_) (fun _ => ?_)
                · refine dn_iinc (pc := 119) (s85.1 + 1) 3 dX6_pourInto_119 rfl rfl (Nat.le_of_ble_eq_true rfl) (dnKp_nb 2 rfl (dn_cat b _) rfl (dnKp_of (lv2 := [(0, dnV b r0), (5, dnV b (some v5)), (8, .int s85.2)]) [0, 1, 4] rfl rfl)) ?_
                  refine dn_goto (pc := 122) 146 dX6_pourInto_122 rfl ?_
                  exact dn_lv [2, 3, 1, 0, 4] rfl (hj146 (s85.1 + 1) s85.2)
                · refine dn_aload_n (pc := 125) r0 0 dX6_pourInto_125 rfl ?_
                  refine dn_getR (pc := 126) r0 lRX6_27 dX6_pourInto_126 (fun v17 => ?_)
                  refine dn_getI (pc := 129) v17 lRX6_115 dX6_pourInto_129 (fun v18 => ?_)
                  refine dn_bipush (pc := 132) (v := -9) dX6_pourInto_132 rfl ?_
                  refine dn_icmp_ne (pc := 134) 146 dX6_pourInto_134 rfl (fun _ => ?_) (fun _ => ?_)
                  · exact dn_lv [0, 1, 2, 3, 4] rfl (hj146 s85.1 s85.2)
                  · refine dn_aload_n (pc := 137) r0 0 dX6_pourInto_137 rfl ?_
                    refine dn_getR (pc := 138) r0 lRX6_27 dX6_pourInto_138 (fun v19 => ?_)
                    refine dn_iload (pc := 141) 4 dX6_pourInto_141 rfl ?_
                    refine dn_putI (pc := 143) v19 lRX6_115 dX6_pourInto_143 ?_
                    exact dn_lv [0, 1, 2, 3, 4] rfl (hj146 s85.1 s85.2)
          · refine dn_iload (pc := 152) 0 dX6_pourInto_152 rfl ?_
            exact dn_ret (Nat.le_of_ble_eq_true rfl) (Nat.le_of_ble_eq_true rfl) rfl dX6_pourInto_154
    · refine dn_iconst (pc := 14) (v := -1) dX6_pourInto_14 rfl ?_
      exact dn_ret (Nat.le_of_ble_eq_true rfl) (Nat.le_of_ble_eq_true rfl) rfl dX6_pourInto_15
  · refine dn_iconst (pc := 14) (v := -1) dX6_pourInto_14 rfl ?_
    exact dn_ret (Nat.le_of_ble_eq_true rfl) (Nat.le_of_ble_eq_true rfl) rfl dX6_pourInto_15
abbrev rmX12_pour : Room := { frames := 5, cells := 0, slots := 0, locals := 115 }
def fX12_pour (r0 : Option Nat) (p1 : Int32) (p2 : Int32) (p3 : Int32) (p4 : Int32) : dnM Int32 :=
  dnB (dnGR r0 10 4) fun v1 =>
  dnB (dnCv v1 5 (fX6_pourInto v1 p1 p2 p3 p4)) fun v2 =>
  dnB (dnCv r0 10 (fX12_tally r0 v2)) fun v3 =>
  dnP v3
abbrev jX12_pour (w : dnWd) (x : dnX) (b : Nat) := dnD w x b (fun _ => True) cX12_pour RX12 5 rmX12_pour "pour" eI
set_option maxHeartbeats 4000000 in
set_option maxRecDepth 100000 in
theorem mX12_pour (w : dnWd) (x : dnX) (b : Nat) (r0 : Option Nat) (p1 : Int32) (p2 : Int32) (p3 : Int32) (p4 : Int32) : dnMt w x b yX12_pour cX12_pour 5 (some .int) rmX12_pour eI [dnV b r0, .int p1, .int p2, .int p3, .int p4] (fX12_pour r0 p1 p2 p3 p4) := by
  have hlv : lv_args 0 [dnV b r0, .int p1, .int p2, .int p3, .int p4] = [(0, dnV b r0), (1, .int p1), (2, .int p2), (3, .int p3), (4, .int p4)] := by cases r0 <;> rfl
  refine dn_mt (by decide +kernel) roI (by cases r0 <;> exact (Nat.le_of_ble_eq_true rfl)) ?_
  rw [hlv]
  refine dn_top ?_
  show jX12_pour w x b 0 0 0 _ [] (dnB _ dnP)
  unfold fX12_pour
  refine dn_aload_n (pc := 0) r0 0 dX12_pour_0 rfl ?_
  refine dn_aload_n (pc := 1) r0 0 dX12_pour_1 rfl ?_
  refine dn_getR (pc := 2) r0 lRX12_35 dX12_pour_2 (fun v1 => ?_)
  refine dn_iload_n (pc := 5) 1 dX12_pour_5 rfl ?_
  refine dn_iload_n (pc := 6) 2 dX12_pour_6 rfl ?_
  refine dn_iload_n (pc := 7) 3 dX12_pour_7 rfl ?_
  refine dn_iload (pc := 8) 4 dX12_pour_8 rfl ?_
  refine dn_callV0I (pc := 10) [.int p1, .int p2, .int p3, .int p4] v1 kRX12_145 (mX6_pourInto w x b v1 p1 p2 p3 p4) rfl rfl (Nat.le_of_ble_eq_true rfl) ⟨(Nat.le_of_ble_eq_true rfl), (Nat.le_of_ble_eq_true rfl)⟩ ⟨rfl, rfl, (Nat.le_of_ble_eq_true rfl), (Nat.le_of_ble_eq_true rfl)⟩ dX12_pour_10 (fun v2 => ?_)
  refine dn_callV0I (pc := 13) [.int v2] r0 kRX12_91 (mX12_tally w x b r0 v2) rfl rfl (Nat.le_of_ble_eq_true rfl) ⟨(Nat.le_of_ble_eq_true rfl), (Nat.le_of_ble_eq_true rfl)⟩ ⟨rfl, rfl, (Nat.le_of_ble_eq_true rfl), (Nat.le_of_ble_eq_true rfl)⟩ dX12_pour_13 (fun v3 => ?_)
  exact dn_ret (Nat.le_of_ble_eq_true rfl) (Nat.le_of_ble_eq_true rfl) rfl dX12_pour_16
abbrev rmX6_putCell : Room := { frames := 4, cells := 0, slots := 0, locals := 87 }
def fX6_putCell (r0 : Option Nat) (p1 : Int32) (p2 : Int32) (p3 : Int32) (p4 : Int32) (p5 : Int64) : dnM Int32 :=
  dnB (fX12_isGrid p1) fun v1 =>
  if v1 = true then
  (dnB (fX12_isSort p4) fun v2 =>
  if v2 = true then
  (dnB (dnGR r0 5 0) fun v3 =>
  dnB (dnCv v3 7 (fX9_rowAt v3 p1 p2)) fun v4 =>
  v4.elim
  (dnB (dnGR r0 5 0) fun v6 =>
  dnB (dnCv v6 7 (fX9_rowFault v6 p1 p2)) fun v7 =>
  dnP v7)
  (fun v5 => dnB (dnCv (some v5) 4 (fX5_hasCell (some v5) p3)) fun v8 =>
  if v8 = true then
  (dnB (dnGR r0 5 2) fun v9 =>
  dnB (dnCv v9 4 (fX5_become v9 p4 p5)) fun _ =>
  dnB (dnGR r0 5 2) fun v11 =>
  dnB (dnCv (some v5) 4 (fX5_accept (some v5) p3 v11 0)) fun v12 =>
  if v12 = true then
  (dnP 1)
  else
  (dnP (-7)))
  else
  (dnP (-6))))
  else
  (dnP (-1)))
  else
  (dnP (-1))
abbrev jX6_putCell (w : dnWd) (x : dnX) (b : Nat) := dnD w x b (fun _ => True) cX6_putCell RX6 8 rmX6_putCell "putCell" eI
set_option maxHeartbeats 4000000 in
set_option maxRecDepth 100000 in
theorem mX6_putCell (w : dnWd) (x : dnX) (b : Nat) (r0 : Option Nat) (p1 : Int32) (p2 : Int32) (p3 : Int32) (p4 : Int32) (p5 : Int64) : dnMt w x b yX6_putCell cX6_putCell 8 (some .int) rmX6_putCell eI [dnV b r0, .int p1, .int p2, .int p3, .int p4, .long p5] (fX6_putCell r0 p1 p2 p3 p4 p5) := by
  have hlv : lv_args 0 [dnV b r0, .int p1, .int p2, .int p3, .int p4, .long p5] = [(0, dnV b r0), (1, .int p1), (2, .int p2), (3, .int p3), (4, .int p4), (5, .long p5)] := by cases r0 <;> rfl
  refine dn_mt (by decide +kernel) roI (by cases r0 <;> exact (Nat.le_of_ble_eq_true rfl)) ?_
  rw [hlv]
  refine dn_top ?_
  show jX6_putCell w x b 0 0 0 _ [] (dnB _ dnP)
  unfold fX6_putCell
  refine dn_iload_n (pc := 0) 1 dX6_putCell_0 rfl ?_
  refine dn_callSN0Z (pc := 1) [.int p1]  kRX6_31 (mX12_isGrid w x b p1) rfl rfl (Nat.le_of_ble_eq_true rfl) ⟨(Nat.le_of_ble_eq_true rfl), (Nat.le_of_ble_eq_true rfl)⟩ ⟨rfl, rfl, (Nat.le_of_ble_eq_true rfl), (Nat.le_of_ble_eq_true rfl)⟩ dX6_putCell_1 (fun v1 => ?_)
  refine dn_ifz_eq (pc := 4) 15 dX6_putCell_4 rfl (fun _ => ?_) (fun _ => ?_)
  · refine dn_iload (pc := 7) 4 dX6_putCell_7 rfl ?_
    refine dn_callSN0Z (pc := 9) [.int p4]  kRX6_85 (mX12_isSort w x b p4) rfl rfl (Nat.le_of_ble_eq_true rfl) ⟨(Nat.le_of_ble_eq_true rfl), (Nat.le_of_ble_eq_true rfl)⟩ ⟨rfl, rfl, (Nat.le_of_ble_eq_true rfl), (Nat.le_of_ble_eq_true rfl)⟩ dX6_putCell_9 (fun v2 => ?_)
    refine dn_ifz_ne (pc := 12) 17 dX6_putCell_12 rfl (fun _ => ?_) (fun _ => ?_)
    · refine dn_aload_n (pc := 17) r0 0 dX6_putCell_17 rfl ?_
      refine dn_getR (pc := 18) r0 lRX6_23 dX6_putCell_18 (fun v3 => ?_)
      refine dn_iload_n (pc := 21) 1 dX6_putCell_21 rfl ?_
      refine dn_iload_n (pc := 22) 2 dX6_putCell_22 rfl ?_
      refine dn_callV0R (pc := 23) [.int p1, .int p2] v3 kRX6_35 (mX9_rowAt w x b v3 p1 p2) rfl rfl (Nat.le_of_ble_eq_true rfl) ⟨(Nat.le_of_ble_eq_true rfl), (Nat.le_of_ble_eq_true rfl)⟩ ⟨rfl, rfl, (Nat.le_of_ble_eq_true rfl), (Nat.le_of_ble_eq_true rfl)⟩ dX6_putCell_23 (fun v4 => ?_)
      refine dn_astore (pc := 26) v4 dX6_putCell_26 (Nat.le_of_ble_eq_true rfl) (dnKp_of (lv2 := [(0, dnV b r0), (1, .int p1), (2, .int p2), (3, .int p3), (4, .int p4), (5, .long p5)]) [0, 1, 2, 3, 4, 5] rfl rfl) ?_
      refine dn_aload (pc := 28) v4 0 dX6_putCell_28 rfl ?_
      refine dn_ifnonnull (pc := 30) v4 43 dX6_putCell_30 rfl (fun e_ => ?_) (fun v5 e_ => ?_)
      · subst e_
        refine dn_aload_n (pc := 33) r0 1 dX6_putCell_33 rfl ?_
        refine dn_getR (pc := 34) r0 lRX6_23 dX6_putCell_34 (fun v6 => ?_)
        refine dn_iload_n (pc := 37) 2 dX6_putCell_37 rfl ?_
        refine dn_iload_n (pc := 38) 3 dX6_putCell_38 rfl ?_
        refine dn_callV0I (pc := 39) [.int p1, .int p2] v6 kRX6_41 (mX9_rowFault w x b v6 p1 p2) rfl rfl (Nat.le_of_ble_eq_true rfl) ⟨(Nat.le_of_ble_eq_true rfl), (Nat.le_of_ble_eq_true rfl)⟩ ⟨rfl, rfl, (Nat.le_of_ble_eq_true rfl), (Nat.le_of_ble_eq_true rfl)⟩ dX6_putCell_39 (fun v7 => ?_)
        exact dn_ret (Nat.le_of_ble_eq_true rfl) (Nat.le_of_ble_eq_true rfl) rfl dX6_putCell_42
      · subst e_
        refine dn_aload (pc := 43) (some v5) 0 dX6_putCell_43 rfl ?_
        refine dn_iload_n (pc := 45) 4 dX6_putCell_45 rfl ?_
        refine dn_callV0Z (pc := 46) [.int p3] (some v5) kRX6_45 (mX5_hasCell w x b (some v5) p3) rfl rfl (Nat.le_of_ble_eq_true rfl) ⟨(Nat.le_of_ble_eq_true rfl), (Nat.le_of_ble_eq_true rfl)⟩ ⟨rfl, rfl, (Nat.le_of_ble_eq_true rfl), (Nat.le_of_ble_eq_true rfl)⟩ dX6_putCell_46 (fun v8 => ?_)
        refine dn_ifz_ne (pc := 49) 55 dX6_putCell_49 rfl (fun _ => ?_) (fun _ => ?_)
        · refine dn_aload_n (pc := 55) r0 1 dX6_putCell_55 rfl ?_
          refine dn_getR (pc := 56) r0 lRX6_14 dX6_putCell_56 (fun v9 => ?_)
          refine dn_iload (pc := 59) 5 dX6_putCell_59 rfl ?_
          refine dn_lload (pc := 61) 6 dX6_putCell_61 rfl ?_
          refine dn_callV0U (pc := 63) [.int p4, .long p5] v9 kRX6_88 (mX5_become w x b v9 p4 p5) rfl rfl (Nat.le_of_ble_eq_true rfl) ⟨(Nat.le_of_ble_eq_true rfl), (Nat.le_of_ble_eq_true rfl)⟩ ⟨rfl, rfl, (Nat.le_of_ble_eq_true rfl), (Nat.le_of_ble_eq_true rfl)⟩ dX6_putCell_63 (fun _ => ?_)
          refine dn_aload (pc := 66) (some v5) 0 dX6_putCell_66 rfl ?_
          refine dn_iload_n (pc := 68) 4 dX6_putCell_68 rfl ?_
          refine dn_aload_n (pc := 69) r0 1 dX6_putCell_69 rfl ?_
          refine dn_getR (pc := 70) r0 lRX6_14 dX6_putCell_70 (fun v11 => ?_)
          refine dn_iconst (pc := 73) (v := 0) dX6_putCell_73 rfl ?_
          refine dn_callV0Z (pc := 74) [.int p3, dnV b v11, .int 0] (some v5) kRX6_60 (mX5_accept w x b (some v5) p3 v11 0) rfl rfl (Nat.le_of_ble_eq_true rfl) ⟨(Nat.le_of_ble_eq_true rfl), (Nat.le_of_ble_eq_true rfl)⟩ ⟨rfl, rfl, (Nat.le_of_ble_eq_true rfl), (Nat.le_of_ble_eq_true rfl)⟩ dX6_putCell_74 (fun v12 => ?_)
          refine dn_ifz_eq (pc := 77) 84 dX6_putCell_77 rfl (fun _ => ?_) (fun _ => ?_)
          · refine dn_iconst (pc := 80) (v := 1) dX6_putCell_80 rfl ?_
            refine dn_goto (pc := 81) 86 dX6_putCell_81 rfl ?_
            exact dn_ret (Nat.le_of_ble_eq_true rfl) (Nat.le_of_ble_eq_true rfl) rfl dX6_putCell_86
          · refine dn_bipush (pc := 84) (v := -7) dX6_putCell_84 rfl ?_
            exact dn_ret (Nat.le_of_ble_eq_true rfl) (Nat.le_of_ble_eq_true rfl) rfl dX6_putCell_86
        · refine dn_bipush (pc := 52) (v := -6) dX6_putCell_52 rfl ?_
          exact dn_ret (Nat.le_of_ble_eq_true rfl) (Nat.le_of_ble_eq_true rfl) rfl dX6_putCell_54
    · refine dn_iconst (pc := 15) (v := -1) dX6_putCell_15 rfl ?_
      exact dn_ret (Nat.le_of_ble_eq_true rfl) (Nat.le_of_ble_eq_true rfl) rfl dX6_putCell_16
  · refine dn_iconst (pc := 15) (v := -1) dX6_putCell_15 rfl ?_
    exact dn_ret (Nat.le_of_ble_eq_true rfl) (Nat.le_of_ble_eq_true rfl) rfl dX6_putCell_16
abbrev rmX12_put : Room := { frames := 5, cells := 0, slots := 0, locals := 114 }
def fX12_put (r0 : Option Nat) (p1 : Int32) (p2 : Int32) (p3 : Int32) (p4 : Int32) (p5 : Int64) : dnM Int32 :=
  dnB (dnGR r0 10 4) fun v1 =>
  dnB (dnCv v1 5 (fX6_putCell v1 p1 p2 p3 p4 p5)) fun v2 =>
  dnB (dnCv r0 10 (fX12_tally r0 v2)) fun v3 =>
  dnP v3
abbrev jX12_put (w : dnWd) (x : dnX) (b : Nat) := dnD w x b (fun _ => True) cX12_put RX12 7 rmX12_put "put" eI
set_option maxHeartbeats 4000000 in
set_option maxRecDepth 100000 in
theorem mX12_put (w : dnWd) (x : dnX) (b : Nat) (r0 : Option Nat) (p1 : Int32) (p2 : Int32) (p3 : Int32) (p4 : Int32) (p5 : Int64) : dnMt w x b yX12_put cX12_put 7 (some .int) rmX12_put eI [dnV b r0, .int p1, .int p2, .int p3, .int p4, .long p5] (fX12_put r0 p1 p2 p3 p4 p5) := by
  have hlv : lv_args 0 [dnV b r0, .int p1, .int p2, .int p3, .int p4, .long p5] = [(0, dnV b r0), (1, .int p1), (2, .int p2), (3, .int p3), (4, .int p4), (5, .long p5)] := by cases r0 <;> rfl
  refine dn_mt (by decide +kernel) roI (by cases r0 <;> exact (Nat.le_of_ble_eq_true rfl)) ?_
  rw [hlv]
  refine dn_top ?_
  show jX12_put w x b 0 0 0 _ [] (dnB _ dnP)
  unfold fX12_put
  refine dn_aload_n (pc := 0) r0 0 dX12_put_0 rfl ?_
  refine dn_aload_n (pc := 1) r0 0 dX12_put_1 rfl ?_
  refine dn_getR (pc := 2) r0 lRX12_35 dX12_put_2 (fun v1 => ?_)
  refine dn_iload_n (pc := 5) 1 dX12_put_5 rfl ?_
  refine dn_iload_n (pc := 6) 2 dX12_put_6 rfl ?_
  refine dn_iload_n (pc := 7) 3 dX12_put_7 rfl ?_
  refine dn_iload (pc := 8) 4 dX12_put_8 rfl ?_
  refine dn_lload (pc := 10) 5 dX12_put_10 rfl ?_
  refine dn_callV0I (pc := 12) [.int p1, .int p2, .int p3, .int p4, .long p5] v1 kRX12_128 (mX6_putCell w x b v1 p1 p2 p3 p4 p5) rfl rfl (Nat.le_of_ble_eq_true rfl) ⟨(Nat.le_of_ble_eq_true rfl), (Nat.le_of_ble_eq_true rfl)⟩ ⟨rfl, rfl, (Nat.le_of_ble_eq_true rfl), (Nat.le_of_ble_eq_true rfl)⟩ dX12_put_12 (fun v2 => ?_)
  refine dn_callV0I (pc := 15) [.int v2] r0 kRX12_91 (mX12_tally w x b r0 v2) rfl rfl (Nat.le_of_ble_eq_true rfl) ⟨(Nat.le_of_ble_eq_true rfl), (Nat.le_of_ble_eq_true rfl)⟩ ⟨rfl, rfl, (Nat.le_of_ble_eq_true rfl), (Nat.le_of_ble_eq_true rfl)⟩ dX12_put_15 (fun v3 => ?_)
  exact dn_ret (Nat.le_of_ble_eq_true rfl) (Nat.le_of_ble_eq_true rfl) rfl dX12_put_18
abbrev rmX6_readCell : Room := { frames := 4, cells := 0, slots := 0, locals := 87 }
def fX6_readCell_j82 (l0 : Option Nat) (l3 : Int32) (l4 : Int32) (l5 : Option Nat) : dnM Int32 :=
  dnB (dnGR l0 5 2) fun v1 =>
  dnB (dnCv v1 4 (fX5_begin v1 l4 1)) fun _ =>
  dnB (dnGR l0 5 2) fun v3 =>
  dnB (dnCv v3 4 (fX5_accept v3 0 l5 l3)) fun v4 =>
  dnB (dnGR l0 5 1) fun v5 =>
  dnB (dnGR l0 5 2) fun v6 =>
  dnB (dnCv v6 4 (fX5_codeAt v6 0)) fun v7 =>
  dnB (dnPL v5 1 0 v7) fun _ =>
  dnB (dnGR l0 5 2) fun v8 =>
  dnB (dnGR v8 4 3) fun v9 =>
  dnB (dnAI v9 100 0) fun v10 =>
  dnP v10
def fX6_readCell (r0 : Option Nat) (p1 : Int32) (p2 : Int32) (p3 : Int32) (p4 : Int32) : dnM Int32 :=
  dnB (fX12_isGrid p1) fun v11 =>
  if v11 = true then
  (if p4 < 0 then
  (dnP (-1))
  else
  (if p4 ≤ 8 then
  (dnB (dnGR r0 5 0) fun v12 =>
  dnB (dnCv v12 7 (fX9_rowAt v12 p1 p2)) fun v13 =>
  v13.elim
  (dnB (dnGR r0 5 0) fun v15 =>
  dnB (dnCv v15 7 (fX9_rowFault v15 p1 p2)) fun v16 =>
  dnP v16)
  (fun v14 => dnB (dnCv (some v14) 4 (fX5_hasCell (some v14) p3)) fun v17 =>
  if v17 = true then
  (if 8 ≤ p4 then
  (fX6_readCell_j82 r0 p3 p4 (some v14))
  else
  (dnB (dnGI (some v14) 4 1) fun v18 =>
  dnB (fX12_readsAs v18 p4) fun v19 =>
  if v19 = true then
  (fX6_readCell_j82 r0 p3 p4 (some v14))
  else
  (dnP (-7))))
  else
  (dnP (-6))))
  else
  (dnP (-1))))
  else
  (dnP (-1))
abbrev jX6_readCell (w : dnWd) (x : dnX) (b : Nat) := dnD w x b (fun _ => True) cX6_readCell RX6 6 rmX6_readCell "readCell" eI
set_option maxHeartbeats 4000000 in
set_option maxRecDepth 100000 in
theorem mX6_readCell (w : dnWd) (x : dnX) (b : Nat) (r0 : Option Nat) (p1 : Int32) (p2 : Int32) (p3 : Int32) (p4 : Int32) : dnMt w x b yX6_readCell cX6_readCell 6 (some .int) rmX6_readCell eI [dnV b r0, .int p1, .int p2, .int p3, .int p4] (fX6_readCell r0 p1 p2 p3 p4) := by
  have hlv : lv_args 0 [dnV b r0, .int p1, .int p2, .int p3, .int p4] = [(0, dnV b r0), (1, .int p1), (2, .int p2), (3, .int p3), (4, .int p4)] := by cases r0 <;> rfl
  refine dn_mt (by decide +kernel) roI (by cases r0 <;> exact (Nat.le_of_ble_eq_true rfl)) ?_
  rw [hlv]
  refine dn_top ?_
  show jX6_readCell w x b 0 0 0 _ [] (dnB _ dnP)
  unfold fX6_readCell
  have hj82 : ∀ (l0 : Option Nat) (l3 : Int32) (l4 : Int32) (l5 : Option Nat), jX6_readCell w x b 82 0 0 [(0, dnV b l0), (3, .int l3), (4, .int l4), (5, dnV b l5)] [] (dnB (fX6_readCell_j82 l0 l3 l4 l5) dnP) := by
    intro l0 l3 l4 l5
    unfold fX6_readCell_j82
    refine dn_aload_n (pc := 82) l0 0 dX6_readCell_82 rfl ?_
    refine dn_getR (pc := 83) l0 lRX6_14 dX6_readCell_83 (fun v1 => ?_)
    refine dn_iload (pc := 86) 2 dX6_readCell_86 rfl ?_
    refine dn_iconst (pc := 88) (v := 1) dX6_readCell_88 rfl ?_
    refine dn_callV0U (pc := 89) [.int l4, .int 1] v1 kRX6_56 (mX5_begin w x b v1 l4 1) rfl rfl (Nat.le_of_ble_eq_true rfl) ⟨(Nat.le_of_ble_eq_true rfl), (Nat.le_of_ble_eq_true rfl)⟩ ⟨rfl, rfl, (Nat.le_of_ble_eq_true rfl), (Nat.le_of_ble_eq_true rfl)⟩ dX6_readCell_89 (fun _ => ?_)
    refine dn_aload_n (pc := 92) l0 0 dX6_readCell_92 rfl ?_
    refine dn_getR (pc := 93) l0 lRX6_14 dX6_readCell_93 (fun v3 => ?_)
    refine dn_iconst (pc := 96) (v := 0) dX6_readCell_96 rfl ?_
    refine dn_aload (pc := 97) l5 3 dX6_readCell_97 rfl ?_
    refine dn_iload_n (pc := 99) 1 dX6_readCell_99 rfl ?_
    refine dn_callV0Z (pc := 100) [.int 0, dnV b l5, .int l3] v3 kRX6_60 (mX5_accept w x b v3 0 l5 l3) rfl rfl (Nat.le_of_ble_eq_true rfl) ⟨(Nat.le_of_ble_eq_true rfl), (Nat.le_of_ble_eq_true rfl)⟩ ⟨rfl, rfl, (Nat.le_of_ble_eq_true rfl), (Nat.le_of_ble_eq_true rfl)⟩ dX6_readCell_100 (fun v4 => ?_)
    refine dn_pop (pc := 103) dX6_readCell_103 rfl ?_
    refine dn_aload_n (pc := 104) l0 0 dX6_readCell_104 rfl ?_
    refine dn_getR (pc := 105) l0 lRX6_27 dX6_readCell_105 (fun v5 => ?_)
    refine dn_aload_n (pc := 108) l0 0 dX6_readCell_108 rfl ?_
    refine dn_getR (pc := 109) l0 lRX6_14 dX6_readCell_109 (fun v6 => ?_)
    refine dn_iconst (pc := 112) (v := 0) dX6_readCell_112 rfl ?_
    refine dn_callV0L (pc := 113) [.int 0] v6 kRX6_64 (mX5_codeAt w x b v6 0) rfl rfl (Nat.le_of_ble_eq_true rfl) ⟨(Nat.le_of_ble_eq_true rfl), (Nat.le_of_ble_eq_true rfl)⟩ ⟨rfl, rfl, (Nat.le_of_ble_eq_true rfl), (Nat.le_of_ble_eq_true rfl)⟩ dX6_readCell_113 (fun v7 => ?_)
    refine dn_putL (pc := 116) v5 lRX6_68 dX6_readCell_116 ?_
    refine dn_aload_n (pc := 119) l0 0 dX6_readCell_119 rfl ?_
    refine dn_getR (pc := 120) l0 lRX6_14 dX6_readCell_120 (fun v8 => ?_)
    refine dn_getR (pc := 123) v8 lRX6_74 dX6_readCell_123 (fun v9 => ?_)
    refine dn_iconst (pc := 126) (v := 0) dX6_readCell_126 rfl ?_
    refine dn_iald (pc := 127) v9 dX6_readCell_127 (fun v10 => ?_)
    exact dn_ret (Nat.le_of_ble_eq_true rfl) (Nat.le_of_ble_eq_true rfl) rfl dX6_readCell_128
  refine dn_iload_n (pc := 0) 1 dX6_readCell_0 rfl ?_
  refine dn_callSN0Z (pc := 1) [.int p1]  kRX6_31 (mX12_isGrid w x b p1) rfl rfl (Nat.le_of_ble_eq_true rfl) ⟨(Nat.le_of_ble_eq_true rfl), (Nat.le_of_ble_eq_true rfl)⟩ ⟨rfl, rfl, (Nat.le_of_ble_eq_true rfl), (Nat.le_of_ble_eq_true rfl)⟩ dX6_readCell_1 (fun v11 => ?_)
  refine dn_ifz_eq (pc := 4) 19 dX6_readCell_4 rfl (fun _ => ?_) (fun _ => ?_)
  · refine dn_iload (pc := 7) 4 dX6_readCell_7 rfl ?_
    refine dn_if_lt (pc := 9) 19 dX6_readCell_9 rfl (fun _ => ?_) (fun _ => ?_)
    · refine dn_iconst (pc := 19) (v := -1) dX6_readCell_19 rfl ?_
      exact dn_ret (Nat.le_of_ble_eq_true rfl) (Nat.le_of_ble_eq_true rfl) rfl dX6_readCell_20
    · refine dn_iload (pc := 12) 4 dX6_readCell_12 rfl ?_
      refine dn_bipush (pc := 14) (v := 8) dX6_readCell_14 rfl ?_
      refine dn_icmp_le (pc := 16) 21 dX6_readCell_16 rfl (fun _ => ?_) (fun _ => ?_)
      · refine dn_aload_n (pc := 21) r0 0 dX6_readCell_21 rfl ?_
        refine dn_getR (pc := 22) r0 lRX6_23 dX6_readCell_22 (fun v12 => ?_)
        refine dn_iload_n (pc := 25) 1 dX6_readCell_25 rfl ?_
        refine dn_iload_n (pc := 26) 2 dX6_readCell_26 rfl ?_
        refine dn_callV0R (pc := 27) [.int p1, .int p2] v12 kRX6_35 (mX9_rowAt w x b v12 p1 p2) rfl rfl (Nat.le_of_ble_eq_true rfl) ⟨(Nat.le_of_ble_eq_true rfl), (Nat.le_of_ble_eq_true rfl)⟩ ⟨rfl, rfl, (Nat.le_of_ble_eq_true rfl), (Nat.le_of_ble_eq_true rfl)⟩ dX6_readCell_27 (fun v13 => ?_)
        refine dn_astore (pc := 30) v13 dX6_readCell_30 (Nat.le_of_ble_eq_true rfl) (dnKp_nb 4 rfl rfl rfl (dnKp_of (lv2 := [(0, dnV b r0), (1, .int p1), (2, .int p2), (3, .int p3)]) [0, 1, 2, 3] rfl rfl)) ?_
        refine dn_aload (pc := 32) v13 0 dX6_readCell_32 rfl ?_
        refine dn_ifnonnull (pc := 34) v13 47 dX6_readCell_34 rfl (fun e_ => ?_) (fun v14 e_ => ?_)
        · subst e_
          refine dn_aload_n (pc := 37) r0 2 dX6_readCell_37 rfl ?_
          refine dn_getR (pc := 38) r0 lRX6_23 dX6_readCell_38 (fun v15 => ?_)
          refine dn_iload_n (pc := 41) 3 dX6_readCell_41 rfl ?_
          refine dn_iload_n (pc := 42) 4 dX6_readCell_42 rfl ?_
          refine dn_callV0I (pc := 43) [.int p1, .int p2] v15 kRX6_41 (mX9_rowFault w x b v15 p1 p2) rfl rfl (Nat.le_of_ble_eq_true rfl) ⟨(Nat.le_of_ble_eq_true rfl), (Nat.le_of_ble_eq_true rfl)⟩ ⟨rfl, rfl, (Nat.le_of_ble_eq_true rfl), (Nat.le_of_ble_eq_true rfl)⟩ dX6_readCell_43 (fun v16 => ?_)
          exact dn_ret (Nat.le_of_ble_eq_true rfl) (Nat.le_of_ble_eq_true rfl) rfl dX6_readCell_46
        · subst e_
          refine dn_aload (pc := 47) (some v14) 0 dX6_readCell_47 rfl ?_
          refine dn_iload_n (pc := 49) 5 dX6_readCell_49 rfl ?_
          refine dn_callV0Z (pc := 50) [.int p3] (some v14) kRX6_45 (mX5_hasCell w x b (some v14) p3) rfl rfl (Nat.le_of_ble_eq_true rfl) ⟨(Nat.le_of_ble_eq_true rfl), (Nat.le_of_ble_eq_true rfl)⟩ ⟨rfl, rfl, (Nat.le_of_ble_eq_true rfl), (Nat.le_of_ble_eq_true rfl)⟩ dX6_readCell_50 (fun v17 => ?_)
          refine dn_ifz_ne (pc := 53) 59 dX6_readCell_53 rfl (fun _ => ?_) (fun _ => ?_)
          · refine dn_iload (pc := 59) 1 dX6_readCell_59 rfl ?_
            refine dn_bipush (pc := 61) (v := 8) dX6_readCell_61 rfl ?_
            refine dn_icmp_ge (pc := 63) 82 dX6_readCell_63 rfl (fun _ => ?_) (fun _ => ?_)
            · exact dn_lv [2, 5, 1, 0] rfl (hj82 r0 p3 p4 (some v14))
            · refine dn_aload (pc := 66) (some v14) 0 dX6_readCell_66 rfl ?_
              refine dn_getI (pc := 68) (some v14) lRX6_48 dX6_readCell_68 (fun v18 => ?_)
              refine dn_iload (pc := 71) 1 dX6_readCell_71 rfl ?_
              refine dn_callSN0Z (pc := 73) [.int v18, .int p4]  kRX6_52 (mX12_readsAs w x b v18 p4) rfl rfl (Nat.le_of_ble_eq_true rfl) ⟨(Nat.le_of_ble_eq_true rfl), (Nat.le_of_ble_eq_true rfl)⟩ ⟨rfl, rfl, (Nat.le_of_ble_eq_true rfl), (Nat.le_of_ble_eq_true rfl)⟩ dX6_readCell_73 (fun v19 => ?_)
              refine dn_ifz_ne (pc := 76) 82 dX6_readCell_76 rfl (fun _ => ?_) (fun _ => ?_)
              · exact dn_lv [2, 5, 1, 0] rfl (hj82 r0 p3 p4 (some v14))
              · refine dn_bipush (pc := 79) (v := -7) dX6_readCell_79 rfl ?_
                exact dn_ret (Nat.le_of_ble_eq_true rfl) (Nat.le_of_ble_eq_true rfl) rfl dX6_readCell_81
          · refine dn_bipush (pc := 56) (v := -6) dX6_readCell_56 rfl ?_
            exact dn_ret (Nat.le_of_ble_eq_true rfl) (Nat.le_of_ble_eq_true rfl) rfl dX6_readCell_58
      · refine dn_iconst (pc := 19) (v := -1) dX6_readCell_19 rfl ?_
        exact dn_ret (Nat.le_of_ble_eq_true rfl) (Nat.le_of_ble_eq_true rfl) rfl dX6_readCell_20
  · refine dn_iconst (pc := 19) (v := -1) dX6_readCell_19 rfl ?_
    exact dn_ret (Nat.le_of_ble_eq_true rfl) (Nat.le_of_ble_eq_true rfl) rfl dX6_readCell_20
abbrev rmX12_read : Room := { frames := 5, cells := 0, slots := 0, locals := 112 }
def fX12_read (r0 : Option Nat) (p1 : Int32) (p2 : Int32) (p3 : Int32) (p4 : Int32) : dnM Int32 :=
  dnB (dnGR r0 10 4) fun v1 =>
  dnB (dnCv v1 5 (fX6_readCell v1 p1 p2 p3 p4)) fun v2 =>
  dnB (dnCv r0 10 (fX12_tally r0 v2)) fun v3 =>
  dnP v3
abbrev jX12_read (w : dnWd) (x : dnX) (b : Nat) := dnD w x b (fun _ => True) cX12_read RX12 5 rmX12_read "read" eI
set_option maxHeartbeats 4000000 in
set_option maxRecDepth 100000 in
theorem mX12_read (w : dnWd) (x : dnX) (b : Nat) (r0 : Option Nat) (p1 : Int32) (p2 : Int32) (p3 : Int32) (p4 : Int32) : dnMt w x b yX12_read cX12_read 5 (some .int) rmX12_read eI [dnV b r0, .int p1, .int p2, .int p3, .int p4] (fX12_read r0 p1 p2 p3 p4) := by
  have hlv : lv_args 0 [dnV b r0, .int p1, .int p2, .int p3, .int p4] = [(0, dnV b r0), (1, .int p1), (2, .int p2), (3, .int p3), (4, .int p4)] := by cases r0 <;> rfl
  refine dn_mt (by decide +kernel) roI (by cases r0 <;> exact (Nat.le_of_ble_eq_true rfl)) ?_
  rw [hlv]
  refine dn_top ?_
  show jX12_read w x b 0 0 0 _ [] (dnB _ dnP)
  unfold fX12_read
  refine dn_aload_n (pc := 0) r0 0 dX12_read_0 rfl ?_
  refine dn_aload_n (pc := 1) r0 0 dX12_read_1 rfl ?_
  refine dn_getR (pc := 2) r0 lRX12_35 dX12_read_2 (fun v1 => ?_)
  refine dn_iload_n (pc := 5) 1 dX12_read_5 rfl ?_
  refine dn_iload_n (pc := 6) 2 dX12_read_6 rfl ?_
  refine dn_iload_n (pc := 7) 3 dX12_read_7 rfl ?_
  refine dn_iload (pc := 8) 4 dX12_read_8 rfl ?_
  refine dn_callV0I (pc := 10) [.int p1, .int p2, .int p3, .int p4] v1 kRX12_121 (mX6_readCell w x b v1 p1 p2 p3 p4) rfl rfl (Nat.le_of_ble_eq_true rfl) ⟨(Nat.le_of_ble_eq_true rfl), (Nat.le_of_ble_eq_true rfl)⟩ ⟨rfl, rfl, (Nat.le_of_ble_eq_true rfl), (Nat.le_of_ble_eq_true rfl)⟩ dX12_read_10 (fun v2 => ?_)
  refine dn_callV0I (pc := 13) [.int v2] r0 kRX12_91 (mX12_tally w x b r0 v2) rfl rfl (Nat.le_of_ble_eq_true rfl) ⟨(Nat.le_of_ble_eq_true rfl), (Nat.le_of_ble_eq_true rfl)⟩ ⟨rfl, rfl, (Nat.le_of_ble_eq_true rfl), (Nat.le_of_ble_eq_true rfl)⟩ dX12_read_13 (fun v3 => ?_)
  exact dn_ret (Nat.le_of_ble_eq_true rfl) (Nat.le_of_ble_eq_true rfl) rfl dX12_read_16
abbrev rmX12_refusals : Room := { frames := 0, cells := 0, slots := 0, locals := 0 }
def fX12_refusals (r0 : Option Nat) (p1 : Int32) : dnM Int32 :=
  if p1 < (-10) then
  (dnP (-1))
  else
  (if (-1) < p1 then
  (dnP (-1))
  else
  (if ¬ p1 = (-9) then
  (dnB (dnGR r0 10 11) fun v1 =>
  dnB (dnAI v1 100 (-p1)) fun v2 =>
  dnP v2)
  else
  (dnP (-1))))
abbrev jX12_refusals (w : dnWd) (x : dnX) (b : Nat) := dnD w x b (fun _ => True) cX12_refusals RX12 2 rmX12_refusals "refusals" eI
set_option maxHeartbeats 4000000 in
set_option maxRecDepth 100000 in
theorem mX12_refusals (w : dnWd) (x : dnX) (b : Nat) (r0 : Option Nat) (p1 : Int32) : dnMt w x b yX12_refusals cX12_refusals 2 (some .int) rmX12_refusals eI [dnV b r0, .int p1] (fX12_refusals r0 p1) := by
  have hlv : lv_args 0 [dnV b r0, .int p1] = [(0, dnV b r0), (1, .int p1)] := by cases r0 <;> rfl
  refine dn_mt (by decide +kernel) roI (by cases r0 <;> exact (Nat.le_of_ble_eq_true rfl)) ?_
  rw [hlv]
  refine dn_top ?_
  show jX12_refusals w x b 0 0 0 _ [] (dnB _ dnP)
  unfold fX12_refusals
  refine dn_iload_n (pc := 0) 1 dX12_refusals_0 rfl ?_
  refine dn_bipush (pc := 1) (v := -10) dX12_refusals_1 rfl ?_
  refine dn_icmp_lt (pc := 3) 17 dX12_refusals_3 rfl (fun _ => ?_) (fun _ => ?_)
  · refine dn_iconst (pc := 17) (v := -1) dX12_refusals_17 rfl ?_
    exact dn_ret (Nat.le_of_ble_eq_true rfl) (Nat.le_of_ble_eq_true rfl) rfl dX12_refusals_18
  · refine dn_iload_n (pc := 6) 1 dX12_refusals_6 rfl ?_
    refine dn_iconst (pc := 7) (v := -1) dX12_refusals_7 rfl ?_
    refine dn_icmp_gt (pc := 8) 17 dX12_refusals_8 rfl (fun _ => ?_) (fun _ => ?_)
    · refine dn_iconst (pc := 17) (v := -1) dX12_refusals_17 rfl ?_
      exact dn_ret (Nat.le_of_ble_eq_true rfl) (Nat.le_of_ble_eq_true rfl) rfl dX12_refusals_18
    · refine dn_iload_n (pc := 11) 1 dX12_refusals_11 rfl ?_
      refine dn_bipush (pc := 12) (v := -9) dX12_refusals_12 rfl ?_
      refine dn_icmp_ne (pc := 14) 19 dX12_refusals_14 rfl (fun _ => ?_) (fun _ => ?_)
      · refine dn_aload_n (pc := 19) r0 0 dX12_refusals_19 rfl ?_
        refine dn_getR (pc := 20) r0 lRX12_83 dX12_refusals_20 (fun v1 => ?_)
        refine dn_iload_n (pc := 23) 1 dX12_refusals_23 rfl ?_
        refine dn_ineg (pc := 24) dX12_refusals_24 ?_
        refine dn_iald (pc := 25) v1 dX12_refusals_25 (fun v2 => ?_)
        exact dn_ret (Nat.le_of_ble_eq_true rfl) (Nat.le_of_ble_eq_true rfl) rfl dX12_refusals_26
      · refine dn_iconst (pc := 17) (v := -1) dX12_refusals_17 rfl ?_
        exact dn_ret (Nat.le_of_ble_eq_true rfl) (Nat.le_of_ble_eq_true rfl) rfl dX12_refusals_18
abbrev rmX12_roll : Room := { frames := 5, cells := 0, slots := 0, locals := 115 }
def fX12_roll (r0 : Option Nat) (p1 : Int32) (p2 : Int32) (p3 : Int32) : dnM Int32 :=
  dnB (dnGR r0 10 4) fun v1 =>
  dnB (dnCv v1 5 (fX6_rotate v1 p1 p2 p3)) fun v2 =>
  dnB (dnCv r0 10 (fX12_tally r0 v2)) fun v3 =>
  dnP v3
abbrev jX12_roll (w : dnWd) (x : dnX) (b : Nat) := dnD w x b (fun _ => True) cX12_roll RX12 4 rmX12_roll "roll" eI
set_option maxHeartbeats 4000000 in
set_option maxRecDepth 100000 in
theorem mX12_roll (w : dnWd) (x : dnX) (b : Nat) (r0 : Option Nat) (p1 : Int32) (p2 : Int32) (p3 : Int32) : dnMt w x b yX12_roll cX12_roll 4 (some .int) rmX12_roll eI [dnV b r0, .int p1, .int p2, .int p3] (fX12_roll r0 p1 p2 p3) := by
  have hlv : lv_args 0 [dnV b r0, .int p1, .int p2, .int p3] = [(0, dnV b r0), (1, .int p1), (2, .int p2), (3, .int p3)] := by cases r0 <;> rfl
  refine dn_mt (by decide +kernel) roI (by cases r0 <;> exact (Nat.le_of_ble_eq_true rfl)) ?_
  rw [hlv]
  refine dn_top ?_
  show jX12_roll w x b 0 0 0 _ [] (dnB _ dnP)
  unfold fX12_roll
  refine dn_aload_n (pc := 0) r0 0 dX12_roll_0 rfl ?_
  refine dn_aload_n (pc := 1) r0 0 dX12_roll_1 rfl ?_
  refine dn_getR (pc := 2) r0 lRX12_35 dX12_roll_2 (fun v1 => ?_)
  refine dn_iload_n (pc := 5) 1 dX12_roll_5 rfl ?_
  refine dn_iload_n (pc := 6) 2 dX12_roll_6 rfl ?_
  refine dn_iload_n (pc := 7) 3 dX12_roll_7 rfl ?_
  refine dn_callV0I (pc := 8) [.int p1, .int p2, .int p3] v1 kRX12_154 (mX6_rotate w x b v1 p1 p2 p3) rfl rfl (Nat.le_of_ble_eq_true rfl) ⟨(Nat.le_of_ble_eq_true rfl), (Nat.le_of_ble_eq_true rfl)⟩ ⟨rfl, rfl, (Nat.le_of_ble_eq_true rfl), (Nat.le_of_ble_eq_true rfl)⟩ dX12_roll_8 (fun v2 => ?_)
  refine dn_callV0I (pc := 11) [.int v2] r0 kRX12_91 (mX12_tally w x b r0 v2) rfl rfl (Nat.le_of_ble_eq_true rfl) ⟨(Nat.le_of_ble_eq_true rfl), (Nat.le_of_ble_eq_true rfl)⟩ ⟨rfl, rfl, (Nat.le_of_ble_eq_true rfl), (Nat.le_of_ble_eq_true rfl)⟩ dX12_roll_11 (fun v3 => ?_)
  exact dn_ret (Nat.le_of_ble_eq_true rfl) (Nat.le_of_ble_eq_true rfl) rfl dX12_roll_14
abbrev rmX12_row : Room := { frames := 4, cells := 0, slots := 0, locals := 94 }
def fX12_row (r0 : Option Nat) (p1 : Int32) (p2 : Int32) (p3 : Int32) (p4 : Int32) : dnM Int32 :=
  dnB (dnGR r0 10 0) fun v1 =>
  dnB (dnCv v1 7 (fX9_newRow v1 p1 p2 p3 p4)) fun v2 =>
  dnB (dnCv r0 10 (fX12_tally r0 v2)) fun v3 =>
  dnP v3
abbrev jX12_row (w : dnWd) (x : dnX) (b : Nat) := dnD w x b (fun _ => True) cX12_row RX12 5 rmX12_row "row" eI
set_option maxHeartbeats 4000000 in
set_option maxRecDepth 100000 in
theorem mX12_row (w : dnWd) (x : dnX) (b : Nat) (r0 : Option Nat) (p1 : Int32) (p2 : Int32) (p3 : Int32) (p4 : Int32) : dnMt w x b yX12_row cX12_row 5 (some .int) rmX12_row eI [dnV b r0, .int p1, .int p2, .int p3, .int p4] (fX12_row r0 p1 p2 p3 p4) := by
  have hlv : lv_args 0 [dnV b r0, .int p1, .int p2, .int p3, .int p4] = [(0, dnV b r0), (1, .int p1), (2, .int p2), (3, .int p3), (4, .int p4)] := by cases r0 <;> rfl
  refine dn_mt (by decide +kernel) roI (by cases r0 <;> exact (Nat.le_of_ble_eq_true rfl)) ?_
  rw [hlv]
  refine dn_top ?_
  show jX12_row w x b 0 0 0 _ [] (dnB _ dnP)
  unfold fX12_row
  refine dn_aload_n (pc := 0) r0 0 dX12_row_0 rfl ?_
  refine dn_aload_n (pc := 1) r0 0 dX12_row_1 rfl ?_
  refine dn_getR (pc := 2) r0 lRX12_10 dX12_row_2 (fun v1 => ?_)
  refine dn_iload_n (pc := 5) 1 dX12_row_5 rfl ?_
  refine dn_iload_n (pc := 6) 2 dX12_row_6 rfl ?_
  refine dn_iload_n (pc := 7) 3 dX12_row_7 rfl ?_
  refine dn_iload (pc := 8) 4 dX12_row_8 rfl ?_
  refine dn_callV0I (pc := 10) [.int p1, .int p2, .int p3, .int p4] v1 kRX12_98 (mX9_newRow w x b v1 p1 p2 p3 p4) rfl rfl (Nat.le_of_ble_eq_true rfl) ⟨(Nat.le_of_ble_eq_true rfl), (Nat.le_of_ble_eq_true rfl)⟩ ⟨rfl, rfl, (Nat.le_of_ble_eq_true rfl), (Nat.le_of_ble_eq_true rfl)⟩ dX12_row_10 (fun v2 => ?_)
  refine dn_callV0I (pc := 13) [.int v2] r0 kRX12_91 (mX12_tally w x b r0 v2) rfl rfl (Nat.le_of_ble_eq_true rfl) ⟨(Nat.le_of_ble_eq_true rfl), (Nat.le_of_ble_eq_true rfl)⟩ ⟨rfl, rfl, (Nat.le_of_ble_eq_true rfl), (Nat.le_of_ble_eq_true rfl)⟩ dX12_row_13 (fun v3 => ?_)
  exact dn_ret (Nat.le_of_ble_eq_true rfl) (Nat.le_of_ble_eq_true rfl) rfl dX12_row_16
abbrev rmX9_holdSameRow : Room := { frames := 4, cells := 0, slots := 0, locals := 87 }
def fX9_holdSameRow (r0 : Option Nat) (p1 : Int32) (p2 : Int32) (p3 : Int32) (p4 : Int32) : dnM Int32 :=
  dnB (fX12_isGrid p1) fun v1 =>
  if v1 = true then
  (dnB (fX12_isGrid p3) fun v2 =>
  if v2 = true then
  (dnB (dnCv r0 7 (fX9_rowAt r0 p1 p2)) fun v3 =>
  v3.elim
  (dnB (dnCv r0 7 (fX9_rowFault r0 p1 p2)) fun v5 =>
  dnP v5)
  (fun v4 => dnB (dnCv r0 7 (fX9_rowAt r0 p3 p4)) fun v6 =>
  v6.elim
  (dnB (dnCv r0 7 (fX9_rowFault r0 p3 p4)) fun v8 =>
  dnP v8)
  (fun v7 => dnB (dnGI (some v4) 4 0) fun v9 =>
  dnB (dnGI (some v7) 4 0) fun v10 =>
  if ¬ v9 = v10 then
  (dnP 0)
  else
  (dnP 1))))
  else
  (dnP (-1)))
  else
  (dnP (-1))
abbrev jX9_holdSameRow (w : dnWd) (x : dnX) (b : Nat) := dnD w x b (fun _ => True) cX9_holdSameRow RX9 7 rmX9_holdSameRow "holdSameRow" eI
set_option maxHeartbeats 4000000 in
set_option maxRecDepth 100000 in
theorem mX9_holdSameRow (w : dnWd) (x : dnX) (b : Nat) (r0 : Option Nat) (p1 : Int32) (p2 : Int32) (p3 : Int32) (p4 : Int32) : dnMt w x b yX9_holdSameRow cX9_holdSameRow 7 (some .int) rmX9_holdSameRow eI [dnV b r0, .int p1, .int p2, .int p3, .int p4] (fX9_holdSameRow r0 p1 p2 p3 p4) := by
  have hlv : lv_args 0 [dnV b r0, .int p1, .int p2, .int p3, .int p4] = [(0, dnV b r0), (1, .int p1), (2, .int p2), (3, .int p3), (4, .int p4)] := by cases r0 <;> rfl
  refine dn_mt (by decide +kernel) roI (by cases r0 <;> exact (Nat.le_of_ble_eq_true rfl)) ?_
  rw [hlv]
  refine dn_top ?_
  show jX9_holdSameRow w x b 0 0 0 _ [] (dnB _ dnP)
  unfold fX9_holdSameRow
  refine dn_iload_n (pc := 0) 1 dX9_holdSameRow_0 rfl ?_
  refine dn_callSN0Z (pc := 1) [.int p1]  kRX9_47 (mX12_isGrid w x b p1) rfl rfl (Nat.le_of_ble_eq_true rfl) ⟨(Nat.le_of_ble_eq_true rfl), (Nat.le_of_ble_eq_true rfl)⟩ ⟨rfl, rfl, (Nat.le_of_ble_eq_true rfl), (Nat.le_of_ble_eq_true rfl)⟩ dX9_holdSameRow_1 (fun v1 => ?_)
  refine dn_ifz_eq (pc := 4) 14 dX9_holdSameRow_4 rfl (fun _ => ?_) (fun _ => ?_)
  · refine dn_iload_n (pc := 7) 3 dX9_holdSameRow_7 rfl ?_
    refine dn_callSN0Z (pc := 8) [.int p3]  kRX9_47 (mX12_isGrid w x b p3) rfl rfl (Nat.le_of_ble_eq_true rfl) ⟨(Nat.le_of_ble_eq_true rfl), (Nat.le_of_ble_eq_true rfl)⟩ ⟨rfl, rfl, (Nat.le_of_ble_eq_true rfl), (Nat.le_of_ble_eq_true rfl)⟩ dX9_holdSameRow_8 (fun v2 => ?_)
    refine dn_ifz_ne (pc := 11) 16 dX9_holdSameRow_11 rfl (fun _ => ?_) (fun _ => ?_)
    · refine dn_aload_n (pc := 16) r0 0 dX9_holdSameRow_16 rfl ?_
      refine dn_iload_n (pc := 17) 1 dX9_holdSameRow_17 rfl ?_
      refine dn_iload_n (pc := 18) 2 dX9_holdSameRow_18 rfl ?_
      refine dn_callV0R (pc := 19) [.int p1, .int p2] r0 kRX9_94 (mX9_rowAt w x b r0 p1 p2) rfl rfl (Nat.le_of_ble_eq_true rfl) ⟨(Nat.le_of_ble_eq_true rfl), (Nat.le_of_ble_eq_true rfl)⟩ ⟨rfl, rfl, (Nat.le_of_ble_eq_true rfl), (Nat.le_of_ble_eq_true rfl)⟩ dX9_holdSameRow_19 (fun v3 => ?_)
      refine dn_astore (pc := 22) v3 dX9_holdSameRow_22 (Nat.le_of_ble_eq_true rfl) (dnKp_nb 4 rfl rfl rfl (dnKp_of (lv2 := [(0, dnV b r0), (1, .int p1), (2, .int p2), (3, .int p3)]) [0, 1, 2, 3] rfl rfl)) ?_
      refine dn_aload (pc := 24) v3 0 dX9_holdSameRow_24 rfl ?_
      refine dn_ifnonnull (pc := 26) v3 36 dX9_holdSameRow_26 rfl (fun e_ => ?_) (fun v4 e_ => ?_)
      · subst e_
        refine dn_aload_n (pc := 29) r0 2 dX9_holdSameRow_29 rfl ?_
        refine dn_iload_n (pc := 30) 3 dX9_holdSameRow_30 rfl ?_
        refine dn_iload_n (pc := 31) 4 dX9_holdSameRow_31 rfl ?_
        refine dn_callV0I (pc := 32) [.int p1, .int p2] r0 kRX9_100 (mX9_rowFault w x b r0 p1 p2) rfl rfl (Nat.le_of_ble_eq_true rfl) ⟨(Nat.le_of_ble_eq_true rfl), (Nat.le_of_ble_eq_true rfl)⟩ ⟨rfl, rfl, (Nat.le_of_ble_eq_true rfl), (Nat.le_of_ble_eq_true rfl)⟩ dX9_holdSameRow_32 (fun v5 => ?_)
        exact dn_ret (Nat.le_of_ble_eq_true rfl) (Nat.le_of_ble_eq_true rfl) rfl dX9_holdSameRow_35
      · subst e_
        refine dn_aload_n (pc := 36) r0 2 dX9_holdSameRow_36 rfl ?_
        refine dn_iload_n (pc := 37) 5 dX9_holdSameRow_37 rfl ?_
        refine dn_iload (pc := 38) 1 dX9_holdSameRow_38 rfl ?_
        refine dn_callV0R (pc := 40) [.int p3, .int p4] r0 kRX9_94 (mX9_rowAt w x b r0 p3 p4) rfl rfl (Nat.le_of_ble_eq_true rfl) ⟨(Nat.le_of_ble_eq_true rfl), (Nat.le_of_ble_eq_true rfl)⟩ ⟨rfl, rfl, (Nat.le_of_ble_eq_true rfl), (Nat.le_of_ble_eq_true rfl)⟩ dX9_holdSameRow_40 (fun v6 => ?_)
        refine dn_astore (pc := 43) v6 dX9_holdSameRow_43 (Nat.le_of_ble_eq_true rfl) (dnKp_nb 0 rfl (dn_cat b _) rfl (dnKp_of (lv2 := [(4, .int p4), (0, dnV b r0), (3, .int p3)]) [1, 2, 5] rfl rfl)) ?_
        refine dn_aload (pc := 45) v6 0 dX9_holdSameRow_45 rfl ?_
        refine dn_ifnonnull (pc := 47) v6 58 dX9_holdSameRow_47 rfl (fun e_ => ?_) (fun v7 e_ => ?_)
        · subst e_
          refine dn_aload_n (pc := 50) r0 3 dX9_holdSameRow_50 rfl ?_
          refine dn_iload_n (pc := 51) 4 dX9_holdSameRow_51 rfl ?_
          refine dn_iload (pc := 52) 2 dX9_holdSameRow_52 rfl ?_
          refine dn_callV0I (pc := 54) [.int p3, .int p4] r0 kRX9_100 (mX9_rowFault w x b r0 p3 p4) rfl rfl (Nat.le_of_ble_eq_true rfl) ⟨(Nat.le_of_ble_eq_true rfl), (Nat.le_of_ble_eq_true rfl)⟩ ⟨rfl, rfl, (Nat.le_of_ble_eq_true rfl), (Nat.le_of_ble_eq_true rfl)⟩ dX9_holdSameRow_54 (fun v8 => ?_)
          exact dn_ret (Nat.le_of_ble_eq_true rfl) (Nat.le_of_ble_eq_true rfl) rfl dX9_holdSameRow_57
        · subst e_
          refine dn_aload (pc := 58) (some v4) 1 dX9_holdSameRow_58 rfl ?_
          refine dn_getI (pc := 60) (some v4) lRX9_66 dX9_holdSameRow_60 (fun v9 => ?_)
          refine dn_aload (pc := 63) (some v7) 0 dX9_holdSameRow_63 rfl ?_
          refine dn_getI (pc := 65) (some v7) lRX9_66 dX9_holdSameRow_65 (fun v10 => ?_)
          refine dn_icmp_ne (pc := 68) 75 dX9_holdSameRow_68 rfl (fun _ => ?_) (fun _ => ?_)
          · refine dn_iconst (pc := 75) (v := 0) dX9_holdSameRow_75 rfl ?_
            exact dn_ret (Nat.le_of_ble_eq_true rfl) (Nat.le_of_ble_eq_true rfl) rfl dX9_holdSameRow_76
          · refine dn_iconst (pc := 71) (v := 1) dX9_holdSameRow_71 rfl ?_
            refine dn_goto (pc := 72) 76 dX9_holdSameRow_72 rfl ?_
            exact dn_ret (Nat.le_of_ble_eq_true rfl) (Nat.le_of_ble_eq_true rfl) rfl dX9_holdSameRow_76
    · refine dn_iconst (pc := 14) (v := -1) dX9_holdSameRow_14 rfl ?_
      exact dn_ret (Nat.le_of_ble_eq_true rfl) (Nat.le_of_ble_eq_true rfl) rfl dX9_holdSameRow_15
  · refine dn_iconst (pc := 14) (v := -1) dX9_holdSameRow_14 rfl ?_
    exact dn_ret (Nat.le_of_ble_eq_true rfl) (Nat.le_of_ble_eq_true rfl) rfl dX9_holdSameRow_15
abbrev rmX12_same : Room := { frames := 5, cells := 0, slots := 0, locals := 113 }
def fX12_same (r0 : Option Nat) (p1 : Int32) (p2 : Int32) (p3 : Int32) (p4 : Int32) : dnM Int32 :=
  dnB (dnGR r0 10 0) fun v1 =>
  dnB (dnCv v1 7 (fX9_holdSameRow v1 p1 p2 p3 p4)) fun v2 =>
  dnB (dnCv r0 10 (fX12_tally r0 v2)) fun v3 =>
  dnP v3
abbrev jX12_same (w : dnWd) (x : dnX) (b : Nat) := dnD w x b (fun _ => True) cX12_same RX12 5 rmX12_same "same" eI
set_option maxHeartbeats 4000000 in
set_option maxRecDepth 100000 in
theorem mX12_same (w : dnWd) (x : dnX) (b : Nat) (r0 : Option Nat) (p1 : Int32) (p2 : Int32) (p3 : Int32) (p4 : Int32) : dnMt w x b yX12_same cX12_same 5 (some .int) rmX12_same eI [dnV b r0, .int p1, .int p2, .int p3, .int p4] (fX12_same r0 p1 p2 p3 p4) := by
  have hlv : lv_args 0 [dnV b r0, .int p1, .int p2, .int p3, .int p4] = [(0, dnV b r0), (1, .int p1), (2, .int p2), (3, .int p3), (4, .int p4)] := by cases r0 <;> rfl
  refine dn_mt (by decide +kernel) roI (by cases r0 <;> exact (Nat.le_of_ble_eq_true rfl)) ?_
  rw [hlv]
  refine dn_top ?_
  show jX12_same w x b 0 0 0 _ [] (dnB _ dnP)
  unfold fX12_same
  refine dn_aload_n (pc := 0) r0 0 dX12_same_0 rfl ?_
  refine dn_aload_n (pc := 1) r0 0 dX12_same_1 rfl ?_
  refine dn_getR (pc := 2) r0 lRX12_10 dX12_same_2 (fun v1 => ?_)
  refine dn_iload_n (pc := 5) 1 dX12_same_5 rfl ?_
  refine dn_iload_n (pc := 6) 2 dX12_same_6 rfl ?_
  refine dn_iload_n (pc := 7) 3 dX12_same_7 rfl ?_
  refine dn_iload (pc := 8) 4 dX12_same_8 rfl ?_
  refine dn_callV0I (pc := 10) [.int p1, .int p2, .int p3, .int p4] v1 kRX12_115 (mX9_holdSameRow w x b v1 p1 p2 p3 p4) rfl rfl (Nat.le_of_ble_eq_true rfl) ⟨(Nat.le_of_ble_eq_true rfl), (Nat.le_of_ble_eq_true rfl)⟩ ⟨rfl, rfl, (Nat.le_of_ble_eq_true rfl), (Nat.le_of_ble_eq_true rfl)⟩ dX12_same_10 (fun v2 => ?_)
  refine dn_callV0I (pc := 13) [.int v2] r0 kRX12_91 (mX12_tally w x b r0 v2) rfl rfl (Nat.le_of_ble_eq_true rfl) ⟨(Nat.le_of_ble_eq_true rfl), (Nat.le_of_ble_eq_true rfl)⟩ ⟨rfl, rfl, (Nat.le_of_ble_eq_true rfl), (Nat.le_of_ble_eq_true rfl)⟩ dX12_same_13 (fun v3 => ?_)
  exact dn_ret (Nat.le_of_ble_eq_true rfl) (Nat.le_of_ble_eq_true rfl) rfl dX12_same_16
abbrev rmX1_observe : Room := { frames := 1, cells := 0, slots := 0, locals := 20 }
def fX1_observe (r0 : Option Nat) (p1 : Int32) (p2 : Int32) : dnM Int32 :=
  dnB (fX12_isAct p1) fun v1 =>
  if v1 = true then
  (if p2 < 0 then
  (dnP (-1))
  else
  (if p2 ≤ 1 then
  (dnB (dnGI r0 0 3) fun v2 =>
  if ¬ v2 = 6 then
  (dnB (dnGR r0 0 1) fun v3 =>
  dnB (dnGI r0 0 3) fun v4 =>
  dnB (dnTI v3 100 v4 p1) fun _ =>
  dnB (dnGR r0 0 2) fun v5 =>
  dnB (dnGI r0 0 3) fun v6 =>
  dnB (dnTI v5 100 v6 p2) fun _ =>
  dnB (dnGI r0 0 3) fun v7 =>
  dnB (dnPI r0 0 3 (v7 + 1)) fun _ =>
  dnB (dnGI r0 0 3) fun v8 =>
  dnP v8)
  else
  (dnP (-10)))
  else
  (dnP (-1))))
  else
  (dnP (-1))
abbrev jX1_observe (w : dnWd) (x : dnX) (b : Nat) := dnD w x b (fun _ => True) cX1_observe RX1 3 rmX1_observe "observe" eI
set_option maxHeartbeats 4000000 in
set_option maxRecDepth 100000 in
theorem mX1_observe (w : dnWd) (x : dnX) (b : Nat) (r0 : Option Nat) (p1 : Int32) (p2 : Int32) : dnMt w x b yX1_observe cX1_observe 3 (some .int) rmX1_observe eI [dnV b r0, .int p1, .int p2] (fX1_observe r0 p1 p2) := by
  have hlv : lv_args 0 [dnV b r0, .int p1, .int p2] = [(0, dnV b r0), (1, .int p1), (2, .int p2)] := by cases r0 <;> rfl
  refine dn_mt (by decide +kernel) roI (by cases r0 <;> exact (Nat.le_of_ble_eq_true rfl)) ?_
  rw [hlv]
  refine dn_top ?_
  show jX1_observe w x b 0 0 0 _ [] (dnB _ dnP)
  unfold fX1_observe
  refine dn_iload_n (pc := 0) 1 dX1_observe_0 rfl ?_
  refine dn_callSN0Z (pc := 1) [.int p1]  kRX1_26 (mX12_isAct w x b p1) rfl rfl (Nat.le_of_ble_eq_true rfl) ⟨(Nat.le_of_ble_eq_true rfl), (Nat.le_of_ble_eq_true rfl)⟩ ⟨rfl, rfl, (Nat.le_of_ble_eq_true rfl), (Nat.le_of_ble_eq_true rfl)⟩ dX1_observe_1 (fun v1 => ?_)
  refine dn_ifz_eq (pc := 4) 16 dX1_observe_4 rfl (fun _ => ?_) (fun _ => ?_)
  · refine dn_iload_n (pc := 7) 2 dX1_observe_7 rfl ?_
    refine dn_if_lt (pc := 8) 16 dX1_observe_8 rfl (fun _ => ?_) (fun _ => ?_)
    · refine dn_iconst (pc := 16) (v := -1) dX1_observe_16 rfl ?_
      exact dn_ret (Nat.le_of_ble_eq_true rfl) (Nat.le_of_ble_eq_true rfl) rfl dX1_observe_17
    · refine dn_iload_n (pc := 11) 2 dX1_observe_11 rfl ?_
      refine dn_iconst (pc := 12) (v := 1) dX1_observe_12 rfl ?_
      refine dn_icmp_le (pc := 13) 18 dX1_observe_13 rfl (fun _ => ?_) (fun _ => ?_)
      · refine dn_aload_n (pc := 18) r0 0 dX1_observe_18 rfl ?_
        refine dn_getI (pc := 19) r0 lRX1_18 dX1_observe_19 (fun v2 => ?_)
        refine dn_bipush (pc := 22) (v := 6) dX1_observe_22 rfl ?_
        refine dn_icmp_ne (pc := 24) 30 dX1_observe_24 rfl (fun _ => ?_) (fun _ => ?_)
        · refine dn_aload_n (pc := 30) r0 0 dX1_observe_30 rfl ?_
          refine dn_getR (pc := 31) r0 lRX1_9 dX1_observe_31 (fun v3 => ?_)
          refine dn_aload_n (pc := 34) r0 0 dX1_observe_34 rfl ?_
          refine dn_getI (pc := 35) r0 lRX1_18 dX1_observe_35 (fun v4 => ?_)
          refine dn_iload_n (pc := 38) 1 dX1_observe_38 rfl ?_
          refine dn_iast (pc := 39) v3 dX1_observe_39 ?_
          refine dn_aload_n (pc := 40) r0 0 dX1_observe_40 rfl ?_
          refine dn_getR (pc := 41) r0 lRX1_15 dX1_observe_41 (fun v5 => ?_)
          refine dn_aload_n (pc := 44) r0 0 dX1_observe_44 rfl ?_
          refine dn_getI (pc := 45) r0 lRX1_18 dX1_observe_45 (fun v6 => ?_)
          refine dn_iload_n (pc := 48) 2 dX1_observe_48 rfl ?_
          refine dn_iast (pc := 49) v5 dX1_observe_49 ?_
          refine dn_aload_n (pc := 50) r0 0 dX1_observe_50 rfl ?_
          refine dn_dup (pc := 51) dX1_observe_51 (dn_cat b _) ?_
          refine dn_getI (pc := 52) r0 lRX1_18 dX1_observe_52 (fun v7 => ?_)
          refine dn_iconst (pc := 55) (v := 1) dX1_observe_55 rfl ?_
          refine dn_iadd (pc := 56) dX1_observe_56 ?_
          refine dn_putI (pc := 57) r0 lRX1_18 dX1_observe_57 ?_
          refine dn_aload_n (pc := 60) r0 0 dX1_observe_60 rfl ?_
          refine dn_getI (pc := 61) r0 lRX1_18 dX1_observe_61 (fun v8 => ?_)
          exact dn_ret (Nat.le_of_ble_eq_true rfl) (Nat.le_of_ble_eq_true rfl) rfl dX1_observe_64
        · refine dn_bipush (pc := 27) (v := -10) dX1_observe_27 rfl ?_
          exact dn_ret (Nat.le_of_ble_eq_true rfl) (Nat.le_of_ble_eq_true rfl) rfl dX1_observe_29
      · refine dn_iconst (pc := 16) (v := -1) dX1_observe_16 rfl ?_
        exact dn_ret (Nat.le_of_ble_eq_true rfl) (Nat.le_of_ble_eq_true rfl) rfl dX1_observe_17
  · refine dn_iconst (pc := 16) (v := -1) dX1_observe_16 rfl ?_
    exact dn_ret (Nat.le_of_ble_eq_true rfl) (Nat.le_of_ble_eq_true rfl) rfl dX1_observe_17
abbrev rmX12_sees : Room := { frames := 2, cells := 0, slots := 0, locals := 42 }
def fX12_sees (r0 : Option Nat) (p1 : Int32) (p2 : Int32) : dnM Int32 :=
  dnB (dnGR r0 10 10) fun v1 =>
  dnB (dnCv v1 0 (fX1_observe v1 p1 p2)) fun v2 =>
  dnB (dnCv r0 10 (fX12_tally r0 v2)) fun v3 =>
  dnP v3
abbrev jX12_sees (w : dnWd) (x : dnX) (b : Nat) := dnD w x b (fun _ => True) cX12_sees RX12 3 rmX12_sees "sees" eI
set_option maxHeartbeats 4000000 in
set_option maxRecDepth 100000 in
theorem mX12_sees (w : dnWd) (x : dnX) (b : Nat) (r0 : Option Nat) (p1 : Int32) (p2 : Int32) : dnMt w x b yX12_sees cX12_sees 3 (some .int) rmX12_sees eI [dnV b r0, .int p1, .int p2] (fX12_sees r0 p1 p2) := by
  have hlv : lv_args 0 [dnV b r0, .int p1, .int p2] = [(0, dnV b r0), (1, .int p1), (2, .int p2)] := by cases r0 <;> rfl
  refine dn_mt (by decide +kernel) roI (by cases r0 <;> exact (Nat.le_of_ble_eq_true rfl)) ?_
  rw [hlv]
  refine dn_top ?_
  show jX12_sees w x b 0 0 0 _ [] (dnB _ dnP)
  unfold fX12_sees
  refine dn_aload_n (pc := 0) r0 0 dX12_sees_0 rfl ?_
  refine dn_aload_n (pc := 1) r0 0 dX12_sees_1 rfl ?_
  refine dn_getR (pc := 2) r0 lRX12_79 dX12_sees_2 (fun v1 => ?_)
  refine dn_iload_n (pc := 5) 1 dX12_sees_5 rfl ?_
  refine dn_iload_n (pc := 6) 2 dX12_sees_6 rfl ?_
  refine dn_callV0I (pc := 7) [.int p1, .int p2] v1 kRX12_241 (mX1_observe w x b v1 p1 p2) rfl rfl (Nat.le_of_ble_eq_true rfl) ⟨(Nat.le_of_ble_eq_true rfl), (Nat.le_of_ble_eq_true rfl)⟩ ⟨rfl, rfl, (Nat.le_of_ble_eq_true rfl), (Nat.le_of_ble_eq_true rfl)⟩ dX12_sees_7 (fun v2 => ?_)
  refine dn_callV0I (pc := 10) [.int v2] r0 kRX12_91 (mX12_tally w x b r0 v2) rfl rfl (Nat.le_of_ble_eq_true rfl) ⟨(Nat.le_of_ble_eq_true rfl), (Nat.le_of_ble_eq_true rfl)⟩ ⟨rfl, rfl, (Nat.le_of_ble_eq_true rfl), (Nat.le_of_ble_eq_true rfl)⟩ dX12_sees_10 (fun v3 => ?_)
  exact dn_ret (Nat.le_of_ble_eq_true rfl) (Nat.le_of_ble_eq_true rfl) rfl dX12_sees_13
abbrev rmX12_share : Room := { frames := 5, cells := 0, slots := 0, locals := 114 }
def fX12_share (r0 : Option Nat) (p1 : Int32) (p2 : Int32) (p3 : Int32) (p4 : Int32) : dnM Int32 :=
  dnB (dnGR r0 10 0) fun v1 =>
  dnB (dnCv v1 7 (fX9_shareContent v1 p1 p2 p3 p4)) fun v2 =>
  dnB (dnCv r0 10 (fX12_tally r0 v2)) fun v3 =>
  dnP v3
abbrev jX12_share (w : dnWd) (x : dnX) (b : Nat) := dnD w x b (fun _ => True) cX12_share RX12 5 rmX12_share "share" eI
set_option maxHeartbeats 4000000 in
set_option maxRecDepth 100000 in
theorem mX12_share (w : dnWd) (x : dnX) (b : Nat) (r0 : Option Nat) (p1 : Int32) (p2 : Int32) (p3 : Int32) (p4 : Int32) : dnMt w x b yX12_share cX12_share 5 (some .int) rmX12_share eI [dnV b r0, .int p1, .int p2, .int p3, .int p4] (fX12_share r0 p1 p2 p3 p4) := by
  have hlv : lv_args 0 [dnV b r0, .int p1, .int p2, .int p3, .int p4] = [(0, dnV b r0), (1, .int p1), (2, .int p2), (3, .int p3), (4, .int p4)] := by cases r0 <;> rfl
  refine dn_mt (by decide +kernel) roI (by cases r0 <;> exact (Nat.le_of_ble_eq_true rfl)) ?_
  rw [hlv]
  refine dn_top ?_
  show jX12_share w x b 0 0 0 _ [] (dnB _ dnP)
  unfold fX12_share
  refine dn_aload_n (pc := 0) r0 0 dX12_share_0 rfl ?_
  refine dn_aload_n (pc := 1) r0 0 dX12_share_1 rfl ?_
  refine dn_getR (pc := 2) r0 lRX12_10 dX12_share_2 (fun v1 => ?_)
  refine dn_iload_n (pc := 5) 1 dX12_share_5 rfl ?_
  refine dn_iload_n (pc := 6) 2 dX12_share_6 rfl ?_
  refine dn_iload_n (pc := 7) 3 dX12_share_7 rfl ?_
  refine dn_iload (pc := 8) 4 dX12_share_8 rfl ?_
  refine dn_callV0I (pc := 10) [.int p1, .int p2, .int p3, .int p4] v1 kRX12_106 (mX9_shareContent w x b v1 p1 p2 p3 p4) rfl rfl (Nat.le_of_ble_eq_true rfl) ⟨(Nat.le_of_ble_eq_true rfl), (Nat.le_of_ble_eq_true rfl)⟩ ⟨rfl, rfl, (Nat.le_of_ble_eq_true rfl), (Nat.le_of_ble_eq_true rfl)⟩ dX12_share_10 (fun v2 => ?_)
  refine dn_callV0I (pc := 13) [.int v2] r0 kRX12_91 (mX12_tally w x b r0 v2) rfl rfl (Nat.le_of_ble_eq_true rfl) ⟨(Nat.le_of_ble_eq_true rfl), (Nat.le_of_ble_eq_true rfl)⟩ ⟨rfl, rfl, (Nat.le_of_ble_eq_true rfl), (Nat.le_of_ble_eq_true rfl)⟩ dX12_share_13 (fun v3 => ?_)
  exact dn_ret (Nat.le_of_ble_eq_true rfl) (Nat.le_of_ble_eq_true rfl) rfl dX12_share_16
abbrev rmX9_lengthOf : Room := { frames := 4, cells := 0, slots := 0, locals := 87 }
def fX9_lengthOf (r0 : Option Nat) (p1 : Int32) (p2 : Int32) : dnM Int32 :=
  dnB (dnCv r0 7 (fX9_rowAt r0 p1 p2)) fun v1 =>
  v1.elim
  (dnB (dnCv r0 7 (fX9_rowFault r0 p1 p2)) fun v3 =>
  dnP v3)
  (fun v2 => dnB (dnGI (some v2) 4 2) fun v4 =>
  dnP v4)
abbrev jX9_lengthOf (w : dnWd) (x : dnX) (b : Nat) := dnD w x b (fun _ => True) cX9_lengthOf RX9 4 rmX9_lengthOf "lengthOf" eI
set_option maxHeartbeats 4000000 in
set_option maxRecDepth 100000 in
theorem mX9_lengthOf (w : dnWd) (x : dnX) (b : Nat) (r0 : Option Nat) (p1 : Int32) (p2 : Int32) : dnMt w x b yX9_lengthOf cX9_lengthOf 4 (some .int) rmX9_lengthOf eI [dnV b r0, .int p1, .int p2] (fX9_lengthOf r0 p1 p2) := by
  have hlv : lv_args 0 [dnV b r0, .int p1, .int p2] = [(0, dnV b r0), (1, .int p1), (2, .int p2)] := by cases r0 <;> rfl
  refine dn_mt (by decide +kernel) roI (by cases r0 <;> exact (Nat.le_of_ble_eq_true rfl)) ?_
  rw [hlv]
  refine dn_top ?_
  show jX9_lengthOf w x b 0 0 0 _ [] (dnB _ dnP)
  unfold fX9_lengthOf
  refine dn_aload_n (pc := 0) r0 0 dX9_lengthOf_0 rfl ?_
  refine dn_iload_n (pc := 1) 1 dX9_lengthOf_1 rfl ?_
  refine dn_iload_n (pc := 2) 2 dX9_lengthOf_2 rfl ?_
  refine dn_callV0R (pc := 3) [.int p1, .int p2] r0 kRX9_94 (mX9_rowAt w x b r0 p1 p2) rfl rfl (Nat.le_of_ble_eq_true rfl) ⟨(Nat.le_of_ble_eq_true rfl), (Nat.le_of_ble_eq_true rfl)⟩ ⟨rfl, rfl, (Nat.le_of_ble_eq_true rfl), (Nat.le_of_ble_eq_true rfl)⟩ dX9_lengthOf_3 (fun v1 => ?_)
  refine dn_astore_n (pc := 6) v1 dX9_lengthOf_6 (Nat.le_of_ble_eq_true rfl) (dnKp_nb 2 rfl rfl rfl (dnKp_of (lv2 := [(0, dnV b r0), (1, .int p1)]) [0, 1] rfl rfl)) ?_
  refine dn_aload_n (pc := 7) v1 0 dX9_lengthOf_7 rfl ?_
  refine dn_ifnonnull (pc := 8) v1 20 dX9_lengthOf_8 rfl (fun e_ => ?_) (fun v2 e_ => ?_)
  · subst e_
    refine dn_aload_n (pc := 11) r0 2 dX9_lengthOf_11 rfl ?_
    refine dn_iload_n (pc := 12) 3 dX9_lengthOf_12 rfl ?_
    refine dn_iload_n (pc := 13) 1 dX9_lengthOf_13 rfl ?_
    refine dn_callV0I (pc := 14) [.int p1, .int p2] r0 kRX9_100 (mX9_rowFault w x b r0 p1 p2) rfl rfl (Nat.le_of_ble_eq_true rfl) ⟨(Nat.le_of_ble_eq_true rfl), (Nat.le_of_ble_eq_true rfl)⟩ ⟨rfl, rfl, (Nat.le_of_ble_eq_true rfl), (Nat.le_of_ble_eq_true rfl)⟩ dX9_lengthOf_14 (fun v3 => ?_)
    refine dn_goto (pc := 17) 24 dX9_lengthOf_17 rfl ?_
    exact dn_ret (Nat.le_of_ble_eq_true rfl) (Nat.le_of_ble_eq_true rfl) rfl dX9_lengthOf_24
  · subst e_
    refine dn_aload_n (pc := 20) (some v2) 0 dX9_lengthOf_20 rfl ?_
    refine dn_getI (pc := 21) (some v2) lRX9_103 dX9_lengthOf_21 (fun v4 => ?_)
    exact dn_ret (Nat.le_of_ble_eq_true rfl) (Nat.le_of_ble_eq_true rfl) rfl dX9_lengthOf_24
abbrev rmX12_size : Room := { frames := 5, cells := 0, slots := 0, locals := 110 }
def fX12_size (r0 : Option Nat) (p1 : Int32) (p2 : Int32) : dnM Int32 :=
  dnB (dnGR r0 10 0) fun v1 =>
  dnB (dnCv v1 7 (fX9_lengthOf v1 p1 p2)) fun v2 =>
  dnB (dnCv r0 10 (fX12_tally r0 v2)) fun v3 =>
  dnP v3
abbrev jX12_size (w : dnWd) (x : dnX) (b : Nat) := dnD w x b (fun _ => True) cX12_size RX12 3 rmX12_size "size" eI
set_option maxHeartbeats 4000000 in
set_option maxRecDepth 100000 in
theorem mX12_size (w : dnWd) (x : dnX) (b : Nat) (r0 : Option Nat) (p1 : Int32) (p2 : Int32) : dnMt w x b yX12_size cX12_size 3 (some .int) rmX12_size eI [dnV b r0, .int p1, .int p2] (fX12_size r0 p1 p2) := by
  have hlv : lv_args 0 [dnV b r0, .int p1, .int p2] = [(0, dnV b r0), (1, .int p1), (2, .int p2)] := by cases r0 <;> rfl
  refine dn_mt (by decide +kernel) roI (by cases r0 <;> exact (Nat.le_of_ble_eq_true rfl)) ?_
  rw [hlv]
  refine dn_top ?_
  show jX12_size w x b 0 0 0 _ [] (dnB _ dnP)
  unfold fX12_size
  refine dn_aload_n (pc := 0) r0 0 dX12_size_0 rfl ?_
  refine dn_aload_n (pc := 1) r0 0 dX12_size_1 rfl ?_
  refine dn_getR (pc := 2) r0 lRX12_10 dX12_size_2 (fun v1 => ?_)
  refine dn_iload_n (pc := 5) 1 dX12_size_5 rfl ?_
  refine dn_iload_n (pc := 6) 2 dX12_size_6 rfl ?_
  refine dn_callV0I (pc := 7) [.int p1, .int p2] v1 kRX12_118 (mX9_lengthOf w x b v1 p1 p2) rfl rfl (Nat.le_of_ble_eq_true rfl) ⟨(Nat.le_of_ble_eq_true rfl), (Nat.le_of_ble_eq_true rfl)⟩ ⟨rfl, rfl, (Nat.le_of_ble_eq_true rfl), (Nat.le_of_ble_eq_true rfl)⟩ dX12_size_7 (fun v2 => ?_)
  refine dn_callV0I (pc := 10) [.int v2] r0 kRX12_91 (mX12_tally w x b r0 v2) rfl rfl (Nat.le_of_ble_eq_true rfl) ⟨(Nat.le_of_ble_eq_true rfl), (Nat.le_of_ble_eq_true rfl)⟩ ⟨rfl, rfl, (Nat.le_of_ble_eq_true rfl), (Nat.le_of_ble_eq_true rfl)⟩ dX12_size_10 (fun v3 => ?_)
  exact dn_ret (Nat.le_of_ble_eq_true rfl) (Nat.le_of_ble_eq_true rfl) rfl dX12_size_13
abbrev rmX12_swap : Room := { frames := 5, cells := 0, slots := 0, locals := 115 }
def fX12_swap (r0 : Option Nat) (p1 : Int32) (p2 : Int32) (p3 : Int32) (p4 : Int32) : dnM Int32 :=
  dnB (dnGR r0 10 0) fun v1 =>
  dnB (dnCv v1 7 (fX9_exchange v1 p1 p2 p3 p4)) fun v2 =>
  dnB (dnCv r0 10 (fX12_tally r0 v2)) fun v3 =>
  dnP v3
abbrev jX12_swap (w : dnWd) (x : dnX) (b : Nat) := dnD w x b (fun _ => True) cX12_swap RX12 5 rmX12_swap "swap" eI
set_option maxHeartbeats 4000000 in
set_option maxRecDepth 100000 in
theorem mX12_swap (w : dnWd) (x : dnX) (b : Nat) (r0 : Option Nat) (p1 : Int32) (p2 : Int32) (p3 : Int32) (p4 : Int32) : dnMt w x b yX12_swap cX12_swap 5 (some .int) rmX12_swap eI [dnV b r0, .int p1, .int p2, .int p3, .int p4] (fX12_swap r0 p1 p2 p3 p4) := by
  have hlv : lv_args 0 [dnV b r0, .int p1, .int p2, .int p3, .int p4] = [(0, dnV b r0), (1, .int p1), (2, .int p2), (3, .int p3), (4, .int p4)] := by cases r0 <;> rfl
  refine dn_mt (by decide +kernel) roI (by cases r0 <;> exact (Nat.le_of_ble_eq_true rfl)) ?_
  rw [hlv]
  refine dn_top ?_
  show jX12_swap w x b 0 0 0 _ [] (dnB _ dnP)
  unfold fX12_swap
  refine dn_aload_n (pc := 0) r0 0 dX12_swap_0 rfl ?_
  refine dn_aload_n (pc := 1) r0 0 dX12_swap_1 rfl ?_
  refine dn_getR (pc := 2) r0 lRX12_10 dX12_swap_2 (fun v1 => ?_)
  refine dn_iload_n (pc := 5) 1 dX12_swap_5 rfl ?_
  refine dn_iload_n (pc := 6) 2 dX12_swap_6 rfl ?_
  refine dn_iload_n (pc := 7) 3 dX12_swap_7 rfl ?_
  refine dn_iload (pc := 8) 4 dX12_swap_8 rfl ?_
  refine dn_callV0I (pc := 10) [.int p1, .int p2, .int p3, .int p4] v1 kRX12_109 (mX9_exchange w x b v1 p1 p2 p3 p4) rfl rfl (Nat.le_of_ble_eq_true rfl) ⟨(Nat.le_of_ble_eq_true rfl), (Nat.le_of_ble_eq_true rfl)⟩ ⟨rfl, rfl, (Nat.le_of_ble_eq_true rfl), (Nat.le_of_ble_eq_true rfl)⟩ dX12_swap_10 (fun v2 => ?_)
  refine dn_callV0I (pc := 13) [.int v2] r0 kRX12_91 (mX12_tally w x b r0 v2) rfl rfl (Nat.le_of_ble_eq_true rfl) ⟨(Nat.le_of_ble_eq_true rfl), (Nat.le_of_ble_eq_true rfl)⟩ ⟨rfl, rfl, (Nat.le_of_ble_eq_true rfl), (Nat.le_of_ble_eq_true rfl)⟩ dX12_swap_13 (fun v3 => ?_)
  exact dn_ret (Nat.le_of_ble_eq_true rfl) (Nat.le_of_ble_eq_true rfl) rfl dX12_swap_16
abbrev rmX9_setThing : Room := { frames := 3, cells := 0, slots := 0, locals := 64 }
def fX9_setThing_j65 (s0 : Option Nat) (s1 : Int32) (s2 : Int32) : dnM Int32 :=
  dnB (dnTI s0 100 s1 s2) fun _ =>
  dnP 1
def fX9_setThing (r0 : Option Nat) (p1 : Int32) (p2 : Int32) (p3 : Int32) : dnM Int32 :=
  dnB (fX12_isGrid p1) fun v1 =>
  if v1 = true then
  (if p3 < 0 then
  (dnP (-1))
  else
  (if p3 ≤ 2 then
  (dnB (dnCv r0 7 (fX9_placeFault r0 p1 p2)) fun v2 =>
  if 0 ≤ v2 then
  (dnB (dnGR r0 7 1) fun v3 =>
  if ¬ p3 = 0 then
  (if ¬ p3 = 1 then
  (fX9_setThing_j65 v3 ((p1 * 6) + p2) (-13))
  else
  (fX9_setThing_j65 v3 ((p1 * 6) + p2) (-12)))
  else
  (fX9_setThing_j65 v3 ((p1 * 6) + p2) (-14)))
  else
  (dnP v2))
  else
  (dnP (-1))))
  else
  (dnP (-1))
abbrev jX9_setThing (w : dnWd) (x : dnX) (b : Nat) := dnD w x b (fun _ => True) cX9_setThing RX9 5 rmX9_setThing "setThing" eI
set_option maxHeartbeats 4000000 in
set_option maxRecDepth 100000 in
theorem mX9_setThing (w : dnWd) (x : dnX) (b : Nat) (r0 : Option Nat) (p1 : Int32) (p2 : Int32) (p3 : Int32) : dnMt w x b yX9_setThing cX9_setThing 5 (some .int) rmX9_setThing eI [dnV b r0, .int p1, .int p2, .int p3] (fX9_setThing r0 p1 p2 p3) := by
  have hlv : lv_args 0 [dnV b r0, .int p1, .int p2, .int p3] = [(0, dnV b r0), (1, .int p1), (2, .int p2), (3, .int p3)] := by cases r0 <;> rfl
  refine dn_mt (by decide +kernel) roI (by cases r0 <;> exact (Nat.le_of_ble_eq_true rfl)) ?_
  rw [hlv]
  refine dn_top ?_
  show jX9_setThing w x b 0 0 0 _ [] (dnB _ dnP)
  unfold fX9_setThing
  have hj65 : ∀ (s0 : Option Nat) (s1 : Int32) (s2 : Int32), jX9_setThing w x b 65 0 0 [] [.int s2, .int s1, dnV b s0] (dnB (fX9_setThing_j65 s0 s1 s2) dnP) := by
    intro s0 s1 s2
    unfold fX9_setThing_j65
    refine dn_iast (pc := 65) s0 dX9_setThing_65 ?_
    refine dn_iconst (pc := 66) (v := 1) dX9_setThing_66 rfl ?_
    exact dn_ret (Nat.le_of_ble_eq_true rfl) (Nat.le_of_ble_eq_true rfl) rfl dX9_setThing_67
  refine dn_iload_n (pc := 0) 1 dX9_setThing_0 rfl ?_
  refine dn_callSN0Z (pc := 1) [.int p1]  kRX9_47 (mX12_isGrid w x b p1) rfl rfl (Nat.le_of_ble_eq_true rfl) ⟨(Nat.le_of_ble_eq_true rfl), (Nat.le_of_ble_eq_true rfl)⟩ ⟨rfl, rfl, (Nat.le_of_ble_eq_true rfl), (Nat.le_of_ble_eq_true rfl)⟩ dX9_setThing_1 (fun v1 => ?_)
  refine dn_ifz_eq (pc := 4) 16 dX9_setThing_4 rfl (fun _ => ?_) (fun _ => ?_)
  · refine dn_iload_n (pc := 7) 3 dX9_setThing_7 rfl ?_
    refine dn_if_lt (pc := 8) 16 dX9_setThing_8 rfl (fun _ => ?_) (fun _ => ?_)
    · refine dn_iconst (pc := 16) (v := -1) dX9_setThing_16 rfl ?_
      exact dn_ret (Nat.le_of_ble_eq_true rfl) (Nat.le_of_ble_eq_true rfl) rfl dX9_setThing_17
    · refine dn_iload_n (pc := 11) 3 dX9_setThing_11 rfl ?_
      refine dn_iconst (pc := 12) (v := 2) dX9_setThing_12 rfl ?_
      refine dn_icmp_le (pc := 13) 18 dX9_setThing_13 rfl (fun _ => ?_) (fun _ => ?_)
      · refine dn_aload_n (pc := 18) r0 0 dX9_setThing_18 rfl ?_
        refine dn_iload_n (pc := 19) 1 dX9_setThing_19 rfl ?_
        refine dn_iload_n (pc := 20) 2 dX9_setThing_20 rfl ?_
        refine dn_callV0I (pc := 21) [.int p1, .int p2] r0 kRX9_55 (mX9_placeFault w x b r0 p1 p2) rfl rfl (Nat.le_of_ble_eq_true rfl) ⟨(Nat.le_of_ble_eq_true rfl), (Nat.le_of_ble_eq_true rfl)⟩ ⟨rfl, rfl, (Nat.le_of_ble_eq_true rfl), (Nat.le_of_ble_eq_true rfl)⟩ dX9_setThing_21 (fun v2 => ?_)
        refine dn_istore (pc := 24) dX9_setThing_24 (Nat.le_of_ble_eq_true rfl) (dnKp_nb 3 rfl rfl rfl (dnKp_of (lv2 := [(0, dnV b r0), (1, .int p1), (2, .int p2)]) [0, 1, 2] rfl rfl)) ?_
        refine dn_iload (pc := 26) 0 dX9_setThing_26 rfl ?_
        refine dn_if_ge (pc := 28) 34 dX9_setThing_28 rfl (fun _ => ?_) (fun _ => ?_)
        · refine dn_aload_n (pc := 34) r0 2 dX9_setThing_34 rfl ?_
          refine dn_getR (pc := 35) r0 lRX9_15 dX9_setThing_35 (fun v3 => ?_)
          refine dn_iload_n (pc := 38) 3 dX9_setThing_38 rfl ?_
          refine dn_bipush (pc := 39) (v := 6) dX9_setThing_39 rfl ?_
          refine dn_imul (pc := 41) dX9_setThing_41 ?_
          refine dn_iload_n (pc := 42) 4 dX9_setThing_42 rfl ?_
          refine dn_iadd (pc := 43) dX9_setThing_43 ?_
          refine dn_iload_n (pc := 44) 1 dX9_setThing_44 rfl ?_
          refine dn_if_ne (pc := 45) 53 dX9_setThing_45 rfl (fun _ => ?_) (fun _ => ?_)
          · refine dn_iload_n (pc := 53) 1 dX9_setThing_53 rfl ?_
            refine dn_iconst (pc := 54) (v := 1) dX9_setThing_54 rfl ?_
            refine dn_icmp_ne (pc := 55) 63 dX9_setThing_55 rfl (fun _ => ?_) (fun _ => ?_)
            · refine dn_bipush (pc := 63) (v := -13) dX9_setThing_63 rfl ?_
              exact dn_lv [] rfl (hj65 v3 ((p1 * 6) + p2) (-13))
            · refine dn_bipush (pc := 58) (v := -12) dX9_setThing_58 rfl ?_
              refine dn_goto (pc := 60) 65 dX9_setThing_60 rfl ?_
              exact dn_lv [] rfl (hj65 v3 ((p1 * 6) + p2) (-12))
          · refine dn_bipush (pc := 48) (v := -14) dX9_setThing_48 rfl ?_
            refine dn_goto (pc := 50) 65 dX9_setThing_50 rfl ?_
            exact dn_lv [] rfl (hj65 v3 ((p1 * 6) + p2) (-14))
        · refine dn_iload (pc := 31) 0 dX9_setThing_31 rfl ?_
          exact dn_ret (Nat.le_of_ble_eq_true rfl) (Nat.le_of_ble_eq_true rfl) rfl dX9_setThing_33
      · refine dn_iconst (pc := 16) (v := -1) dX9_setThing_16 rfl ?_
        exact dn_ret (Nat.le_of_ble_eq_true rfl) (Nat.le_of_ble_eq_true rfl) rfl dX9_setThing_17
  · refine dn_iconst (pc := 16) (v := -1) dX9_setThing_16 rfl ?_
    exact dn_ret (Nat.le_of_ble_eq_true rfl) (Nat.le_of_ble_eq_true rfl) rfl dX9_setThing_17
abbrev rmX12_thing : Room := { frames := 4, cells := 0, slots := 0, locals := 88 }
def fX12_thing (r0 : Option Nat) (p1 : Int32) (p2 : Int32) (p3 : Int32) : dnM Int32 :=
  dnB (dnGR r0 10 0) fun v1 =>
  dnB (dnCv v1 7 (fX9_setThing v1 p1 p2 p3)) fun v2 =>
  dnB (dnCv r0 10 (fX12_tally r0 v2)) fun v3 =>
  dnP v3
abbrev jX12_thing (w : dnWd) (x : dnX) (b : Nat) := dnD w x b (fun _ => True) cX12_thing RX12 4 rmX12_thing "thing" eI
set_option maxHeartbeats 4000000 in
set_option maxRecDepth 100000 in
theorem mX12_thing (w : dnWd) (x : dnX) (b : Nat) (r0 : Option Nat) (p1 : Int32) (p2 : Int32) (p3 : Int32) : dnMt w x b yX12_thing cX12_thing 4 (some .int) rmX12_thing eI [dnV b r0, .int p1, .int p2, .int p3] (fX12_thing r0 p1 p2 p3) := by
  have hlv : lv_args 0 [dnV b r0, .int p1, .int p2, .int p3] = [(0, dnV b r0), (1, .int p1), (2, .int p2), (3, .int p3)] := by cases r0 <;> rfl
  refine dn_mt (by decide +kernel) roI (by cases r0 <;> exact (Nat.le_of_ble_eq_true rfl)) ?_
  rw [hlv]
  refine dn_top ?_
  show jX12_thing w x b 0 0 0 _ [] (dnB _ dnP)
  unfold fX12_thing
  refine dn_aload_n (pc := 0) r0 0 dX12_thing_0 rfl ?_
  refine dn_aload_n (pc := 1) r0 0 dX12_thing_1 rfl ?_
  refine dn_getR (pc := 2) r0 lRX12_10 dX12_thing_2 (fun v1 => ?_)
  refine dn_iload_n (pc := 5) 1 dX12_thing_5 rfl ?_
  refine dn_iload_n (pc := 6) 2 dX12_thing_6 rfl ?_
  refine dn_iload_n (pc := 7) 3 dX12_thing_7 rfl ?_
  refine dn_callV0I (pc := 8) [.int p1, .int p2, .int p3] v1 kRX12_102 (mX9_setThing w x b v1 p1 p2 p3) rfl rfl (Nat.le_of_ble_eq_true rfl) ⟨(Nat.le_of_ble_eq_true rfl), (Nat.le_of_ble_eq_true rfl)⟩ ⟨rfl, rfl, (Nat.le_of_ble_eq_true rfl), (Nat.le_of_ble_eq_true rfl)⟩ dX12_thing_8 (fun v2 => ?_)
  refine dn_callV0I (pc := 11) [.int v2] r0 kRX12_91 (mX12_tally w x b r0 v2) rfl rfl (Nat.le_of_ble_eq_true rfl) ⟨(Nat.le_of_ble_eq_true rfl), (Nat.le_of_ble_eq_true rfl)⟩ ⟨rfl, rfl, (Nat.le_of_ble_eq_true rfl), (Nat.le_of_ble_eq_true rfl)⟩ dX12_thing_11 (fun v3 => ?_)
  exact dn_ret (Nat.le_of_ble_eq_true rfl) (Nat.le_of_ble_eq_true rfl) rfl dX12_thing_14
abbrev rmX12_times : Room := { frames := 5, cells := 0, slots := 0, locals := 120 }
def fX12_times (r0 : Option Nat) (p1 : Int32) (p2 : Int32) (p3 : Int32) : dnM Int32 :=
  dnB (dnGR r0 10 5) fun v1 =>
  dnB (dnCv v1 9 (fX11_multiply v1 p1 p2 p3)) fun v2 =>
  dnB (dnCv r0 10 (fX12_tally r0 v2)) fun v3 =>
  dnP v3
abbrev jX12_times (w : dnWd) (x : dnX) (b : Nat) := dnD w x b (fun _ => True) cX12_times RX12 4 rmX12_times "times" eI
set_option maxHeartbeats 4000000 in
set_option maxRecDepth 100000 in
theorem mX12_times (w : dnWd) (x : dnX) (b : Nat) (r0 : Option Nat) (p1 : Int32) (p2 : Int32) (p3 : Int32) : dnMt w x b yX12_times cX12_times 4 (some .int) rmX12_times eI [dnV b r0, .int p1, .int p2, .int p3] (fX12_times r0 p1 p2 p3) := by
  have hlv : lv_args 0 [dnV b r0, .int p1, .int p2, .int p3] = [(0, dnV b r0), (1, .int p1), (2, .int p2), (3, .int p3)] := by cases r0 <;> rfl
  refine dn_mt (by decide +kernel) roI (by cases r0 <;> exact (Nat.le_of_ble_eq_true rfl)) ?_
  rw [hlv]
  refine dn_top ?_
  show jX12_times w x b 0 0 0 _ [] (dnB _ dnP)
  unfold fX12_times
  refine dn_aload_n (pc := 0) r0 0 dX12_times_0 rfl ?_
  refine dn_aload_n (pc := 1) r0 0 dX12_times_1 rfl ?_
  refine dn_getR (pc := 2) r0 lRX12_42 dX12_times_2 (fun v1 => ?_)
  refine dn_iload_n (pc := 5) 1 dX12_times_5 rfl ?_
  refine dn_iload_n (pc := 6) 2 dX12_times_6 rfl ?_
  refine dn_iload_n (pc := 7) 3 dX12_times_7 rfl ?_
  refine dn_callV0I (pc := 8) [.int p1, .int p2, .int p3] v1 kRX12_179 (mX11_multiply w x b v1 p1 p2 p3) rfl rfl (Nat.le_of_ble_eq_true rfl) ⟨(Nat.le_of_ble_eq_true rfl), (Nat.le_of_ble_eq_true rfl)⟩ ⟨rfl, rfl, (Nat.le_of_ble_eq_true rfl), (Nat.le_of_ble_eq_true rfl)⟩ dX12_times_8 (fun v2 => ?_)
  refine dn_callV0I (pc := 11) [.int v2] r0 kRX12_91 (mX12_tally w x b r0 v2) rfl rfl (Nat.le_of_ble_eq_true rfl) ⟨(Nat.le_of_ble_eq_true rfl), (Nat.le_of_ble_eq_true rfl)⟩ ⟨rfl, rfl, (Nat.le_of_ble_eq_true rfl), (Nat.le_of_ble_eq_true rfl)⟩ dX12_times_11 (fun v3 => ?_)
  exact dn_ret (Nat.le_of_ble_eq_true rfl) (Nat.le_of_ble_eq_true rfl) rfl dX12_times_14
abbrev rmX12_told : Room := { frames := 0, cells := 0, slots := 0, locals := 0 }
def fX12_told (r0 : Option Nat) : dnM Int64 :=
  dnB (dnGR r0 10 3) fun v1 =>
  dnB (dnGL v1 1 0) fun v2 =>
  dnP v2
abbrev jX12_told (w : dnWd) (x : dnX) (b : Nat) := dnD w x b (fun _ => True) cX12_told RX12 1 rmX12_told "told" eL
set_option maxHeartbeats 4000000 in
set_option maxRecDepth 100000 in
theorem mX12_told (w : dnWd) (x : dnX) (b : Nat) (r0 : Option Nat) : dnMt w x b yX12_told cX12_told 1 (some .long) rmX12_told eL [dnV b r0] (fX12_told r0) := by
  have hlv : lv_args 0 [dnV b r0] = [(0, dnV b r0)] := by cases r0 <;> rfl
  refine dn_mt (by decide +kernel) roL (by cases r0 <;> exact (Nat.le_of_ble_eq_true rfl)) ?_
  rw [hlv]
  refine dn_top ?_
  show jX12_told w x b 0 0 0 _ [] (dnB _ dnP)
  unfold fX12_told
  refine dn_aload_n (pc := 0) r0 0 dX12_told_0 rfl ?_
  refine dn_getR (pc := 1) r0 lRX12_26 dX12_told_1 (fun v1 => ?_)
  refine dn_getL (pc := 4) v1 lRX12_259 dX12_told_4 (fun v2 => ?_)
  exact dn_ret (Nat.le_of_ble_eq_true rfl) (Nat.le_of_ble_eq_true rfl) rfl dX12_told_7
abbrev rmX7_bestNear : Room := { frames := 1, cells := 0, slots := 0, locals := 23 }
def fX7_bestNear_b13 (c0 : Option Nat) (c1 : Int32) (c2 : Int32) (s13 : Int64 × Int32) : dnM ((Int64 × Int32) ⊕ (Int64)) :=
  if (c1 + 1) < s13.2 then
  (dnP (.inr s13.1))
  else
  (if c2 ≤ s13.2 then
  (dnP (.inr s13.1))
  else
  (dnB (dnGR c0 6 3) fun v2 =>
  dnB (dnAL v2 102 s13.2) fun v3 =>
  dnB (fJ9_max_f86c9 s13.1 v3) fun v4 =>
  dnP (.inl (v4, (s13.2 + 1)))))
def fX7_bestNear (r0 : Option Nat) (p1 : Int32) (p2 : Int32) : dnM Int64 :=
  dnB (fJ9_max_7cf53 0 (p1 - 1)) fun v1 =>
  dnB (dnIt 1000 (fX7_bestNear_b13 r0 p1 p2) ((-1152921504606846976), v1)) fun q13 =>
  dnP q13
abbrev jX7_bestNear (w : dnWd) (x : dnX) (b : Nat) := dnD w x b (fun _ => True) cX7_bestNear RX7 6 rmX7_bestNear "bestNear" eL
set_option maxHeartbeats 4000000 in
set_option maxRecDepth 100000 in
theorem mX7_bestNear (w : dnWd) (x : dnX) (b : Nat) (r0 : Option Nat) (p1 : Int32) (p2 : Int32) : dnMt w x b yX7_bestNear cX7_bestNear 6 (some .long) rmX7_bestNear eL [dnV b r0, .int p1, .int p2] (fX7_bestNear r0 p1 p2) := by
  have hlv : lv_args 0 [dnV b r0, .int p1, .int p2] = [(0, dnV b r0), (1, .int p1), (2, .int p2)] := by cases r0 <;> rfl
  refine dn_mt (by decide +kernel) roL (by cases r0 <;> exact (Nat.le_of_ble_eq_true rfl)) ?_
  rw [hlv]
  refine dn_top ?_
  show jX7_bestNear w x b 0 0 0 _ [] (dnB _ dnP)
  unfold fX7_bestNear
  refine dn_ldc2 (pc := 0) kRX7_75 dX7_bestNear_0 ?_
  refine dn_lstore_n (pc := 3) dX7_bestNear_3 (Nat.le_of_ble_eq_true rfl) (dnKp_nb 2 rfl rfl rfl (dnKp_of (lv2 := [(0, dnV b r0), (1, .int p1)]) [0, 1] rfl rfl)) ?_
  refine dn_iconst (pc := 4) (v := 0) dX7_bestNear_4 rfl ?_
  refine dn_iload_n (pc := 5) 3 dX7_bestNear_5 rfl ?_
  refine dn_iconst (pc := 6) (v := 1) dX7_bestNear_6 rfl ?_
  refine dn_isub (pc := 7) dX7_bestNear_7 ?_
  refine dn_callS0I (pc := 8) [.int 0, .int (p1 - 1)]  kRX7_80 (mJ9_max_7cf53 w x b 0 (p1 - 1)) rfl rfl (Nat.le_of_ble_eq_true rfl) ⟨(Nat.le_of_ble_eq_true rfl), (Nat.le_of_ble_eq_true rfl)⟩ ⟨rfl, rfl, (Nat.le_of_ble_eq_true rfl), (Nat.le_of_ble_eq_true rfl)⟩ dX7_bestNear_8 (fun v1 => ?_)
  refine dn_istore (pc := 11) dX7_bestNear_11 (Nat.le_of_ble_eq_true rfl) (dnKp_of (lv2 := [(3, .long (-1152921504606846976)), (2, .int p2), (0, dnV b r0), (1, .int p1)]) [0, 1, 2, 3] rfl rfl) ?_
  refine dn_assoc ?_
  refine dn_lv [3, 4, 2, 1, 0] (lv2 := (fun s => [(0, dnV b r0), (1, .int p1), (2, .int p2), (3, .long s.1), (5, .int s.2)]) ((-1152921504606846976), v1)) rfl ?_
  refine dn_loopE (pc := 13) (body := fX7_bestNear_b13 r0 p1 p2) 45 (fun s => [(0, dnV b r0), (1, .int p1), (2, .int p2), (3, .long s.1), (5, .int s.2)]) (fun q => [(3, .long q)]) (fun s13 K13 E13 hK13 hE13 => ?_) (fun q13 => ?_) 1000 ((-1152921504606846976), v1)
  · unfold fX7_bestNear_b13
    refine dn_iload (pc := 13) 4 dX7_bestNear_13 rfl ?_
    refine dn_iload_n (pc := 15) 1 dX7_bestNear_15 rfl ?_
    refine dn_iconst (pc := 16) (v := 1) dX7_bestNear_16 rfl ?_
    refine dn_iadd (pc := 17) dX7_bestNear_17 ?_
    refine dn_icmp_gt (pc := 18) 45 dX7_bestNear_18 rfl (fun _ => ?_) (fun _ => ?_)
    · refine dn_leaf ?_
      exact dn_lv [3] rfl (hE13 s13.1)
    · refine dn_iload (pc := 21) 4 dX7_bestNear_21 rfl ?_
      refine dn_iload_n (pc := 23) 2 dX7_bestNear_23 rfl ?_
      refine dn_icmp_ge (pc := 24) 45 dX7_bestNear_24 rfl (fun _ => ?_) (fun _ => ?_)
      · refine dn_leaf ?_
        exact dn_lv [3] rfl (hE13 s13.1)
      · refine dn_lload_n (pc := 27) 3 dX7_bestNear_27 rfl ?_
        refine dn_aload_n (pc := 28) r0 0 dX7_bestNear_28 rfl ?_
        refine dn_getR (pc := 29) r0 lRX7_15 dX7_bestNear_29 (fun v2 => ?_)
        refine dn_iload (pc := 32) 4 dX7_bestNear_32 rfl ?_
        refine dn_lald (pc := 34) v2 dX7_bestNear_34 (fun v3 => ?_)
        refine dn_callS0L (pc := 35) [.long s13.1, .long v3]  kRX7_85 (mJ9_max_f86c9 w x b s13.1 v3) rfl rfl (Nat.le_of_ble_eq_true rfl) ⟨(Nat.le_of_ble_eq_true rfl), (Nat.le_of_ble_eq_true rfl)⟩ ⟨rfl, rfl, (Nat.le_of_ble_eq_true rfl), (Nat.le_of_ble_eq_true rfl)⟩ dX7_bestNear_35 (fun v4 => ?_)
        refine dn_lstore_n (pc := 38) dX7_bestNear_38 (Nat.le_of_ble_eq_true rfl) (dnKp_nb 2 rfl rfl rfl (dnKp_of (lv2 := [(0, dnV b r0), (1, .int p1), (5, .int s13.2)]) [0, 1, 4] rfl rfl)) ?_
        refine dn_iinc (pc := 39) (s13.2 + 1) 4 dX7_bestNear_39 rfl rfl (Nat.le_of_ble_eq_true rfl) (dnKp_of (lv2 := [(3, .long v4), (2, .int p2), (0, dnV b r0), (1, .int p1)]) [0, 1, 2, 3] rfl rfl) ?_
        refine dn_goto (pc := 42) 13 dX7_bestNear_42 rfl ?_
        refine dn_leaf ?_
        exact dn_lv [3, 4, 2, 1, 0] rfl (hK13 (v4, (s13.2 + 1)))
  · refine dn_lload_n (pc := 45) 0 dX7_bestNear_45 rfl ?_
    exact dn_ret (Nat.le_of_ble_eq_true rfl) (Nat.le_of_ble_eq_true rfl) rfl dX7_bestNear_46
abbrev rmX7_extendPaths : Room := { frames := 2, cells := 0, slots := 0, locals := 60 }
def fX7_extendPaths_j75 (l0 : Option Nat) (l1 : Option Nat) (l2 : Bool) (l3 : Int32) (l4 : Int32) (s0 : Option Nat) (s1 : Int32) (s2 : Int64) : dnM ((Int32) ⊕ (Unit)) :=
  dnB (dnTL s0 102 s1 s2) fun _ =>
  dnP (.inl (l4 + 1))
def fX7_extendPaths_j42 (l0 : Option Nat) (l1 : Option Nat) (l2 : Bool) (l3 : Int32) (l4 : Int32) (s0 : Int64) : dnM ((Int32) ⊕ (Unit)) :=
  dnB (dnGR l0 6 2) fun v3 =>
  if ¬ (lg_cmp s0 (-1152921504606846976)) = 0 then
  (dnB (dnGR l1 4 4) fun v4 =>
  dnB (dnAL v4 102 l4) fun v5 =>
  fX7_extendPaths_j75 l0 l1 l2 l3 l4 v3 l4 (s0 + v5))
  else
  (fX7_extendPaths_j75 l0 l1 l2 l3 l4 v3 l4 (-1152921504606846976))
def fX7_extendPaths_b18 (c0 : Option Nat) (c1 : Option Nat) (c2 : Bool) (c3 : Int32) (s18 : Int32) : dnM ((Int32) ⊕ (Unit)) :=
  dnB (dnGI c1 4 2) fun v6 =>
  if v6 ≤ s18 then
  (dnP (.inr ()))
  else
  (if c2 = true then
  (dnB (dnCv c0 6 (fX7_bestNear c0 s18 c3)) fun v7 =>
  fX7_extendPaths_j42 c0 c1 c2 c3 s18 v7)
  else
  (fX7_extendPaths_j42 c0 c1 c2 c3 s18 0))
def fX7_extendPaths (r0 : Option Nat) (r1 : Option Nat) (p2 : Bool) (p3 : Int32) : dnM Unit :=
  dnB (dnGR r0 6 2) fun v1 =>
  dnB (dnGR r0 6 3) fun v2 =>
  dnB (dnCL v1 v2 0 0 12) fun _ =>
  dnB (dnIt 1000 (fX7_extendPaths_b18 r0 r1 p2 p3) 0) fun q18 =>
  dnP ()
abbrev jX7_extendPaths (w : dnWd) (x : dnX) (b : Nat) := dnD w x b (fun _ => True) cX7_extendPaths RX7 7 rmX7_extendPaths "extendPaths" eU
set_option maxHeartbeats 4000000 in
set_option maxRecDepth 100000 in
theorem mX7_extendPaths (w : dnWd) (x : dnX) (b : Nat) (r0 : Option Nat) (r1 : Option Nat) (p2 : Bool) (p3 : Int32) : dnMt w x b yX7_extendPaths cX7_extendPaths 7 none rmX7_extendPaths eU [dnV b r0, dnV b r1, .int (dnZ p2), .int p3] (fX7_extendPaths r0 r1 p2 p3) := by
  have hlv : lv_args 0 [dnV b r0, dnV b r1, .int (dnZ p2), .int p3] = [(0, dnV b r0), (1, dnV b r1), (2, .int (dnZ p2)), (3, .int p3)] := by cases r0 <;> cases r1 <;> rfl
  refine dn_mt (by decide +kernel) roU (by cases r0 <;> cases r1 <;> exact (Nat.le_of_ble_eq_true rfl)) ?_
  rw [hlv]
  refine dn_top ?_
  show jX7_extendPaths w x b 0 0 0 _ [] (dnB _ dnP)
  unfold fX7_extendPaths
  refine dn_aload_n (pc := 0) r0 0 dX7_extendPaths_0 rfl ?_
  refine dn_getR (pc := 1) r0 lRX7_9 dX7_extendPaths_1 (fun v1 => ?_)
  refine dn_iconst (pc := 4) (v := 0) dX7_extendPaths_4 rfl ?_
  refine dn_aload_n (pc := 5) r0 0 dX7_extendPaths_5 rfl ?_
  refine dn_getR (pc := 6) r0 lRX7_15 dX7_extendPaths_6 (fun v2 => ?_)
  refine dn_iconst (pc := 9) (v := 0) dX7_extendPaths_9 rfl ?_
  refine dn_bipush (pc := 10) (v := 12) dX7_extendPaths_10 rfl ?_
  refine dn_copyL (pc := 12) v1 v2 kRX7_65 kc_1 kc_2 kc_3 ⟨(Nat.le_of_ble_eq_true rfl), (Nat.le_of_ble_eq_true rfl)⟩ (Nat.le_of_ble_eq_true rfl) dX7_extendPaths_12 ?_
  refine dn_iconst (pc := 15) (v := 0) dX7_extendPaths_15 rfl ?_
  refine dn_istore (pc := 16) dX7_extendPaths_16 (Nat.le_of_ble_eq_true rfl) (dnKp_nb 3 rfl rfl rfl (dnKp_of (lv2 := [(0, dnV b r0), (1, dnV b r1), (2, .int (dnZ p2))]) [0, 1, 2] rfl rfl)) ?_
  refine dn_assoc ?_
  refine dn_lv [2, 3, 4, 1, 0] (lv2 := (fun s => [(0, dnV b r0), (1, dnV b r1), (2, .int (dnZ p2)), (3, .int p3), (4, .int s)]) 0) rfl ?_
  refine dn_loopE (pc := 18) (body := fX7_extendPaths_b18 r0 r1 p2 p3) 82 (fun s => [(0, dnV b r0), (1, dnV b r1), (2, .int (dnZ p2)), (3, .int p3), (4, .int s)]) (fun q => []) (fun s18 K18 E18 hK18 hE18 => ?_) (fun q18 => ?_) 1000 0
  · unfold fX7_extendPaths_b18
    have hj75 : ∀ (l4 : Int32) (s0 : Option Nat) (s1 : Int32) (s2 : Int64), jX7_extendPaths w x b 75 0 0 [(0, dnV b r0), (1, dnV b r1), (2, .int (dnZ p2)), (3, .int p3), (4, .int l4)] [.long s2, .int s1, dnV b s0] (dnB (fX7_extendPaths_j75 r0 r1 p2 p3 l4 s0 s1 s2) (dnKo K18 E18)) := by
      intro l4 s0 s1 s2
      unfold fX7_extendPaths_j75
      refine dn_last (pc := 75) s0 dX7_extendPaths_75 ?_
      refine dn_iinc (pc := 76) (l4 + 1) 4 dX7_extendPaths_76 rfl rfl (Nat.le_of_ble_eq_true rfl) (dnKp_nb 3 rfl rfl rfl (dnKp_of (lv2 := [(0, dnV b r0), (1, dnV b r1), (2, .int (dnZ p2))]) [0, 1, 2] rfl rfl)) ?_
      refine dn_goto (pc := 79) 18 dX7_extendPaths_79 rfl ?_
      refine dn_leaf ?_
      exact dn_lv [2, 3, 4, 1, 0] rfl (hK18 (l4 + 1))
    have hj42 : ∀ (l4 : Int32) (s0 : Int64), jX7_extendPaths w x b 42 0 0 [(0, dnV b r0), (1, dnV b r1), (2, .int (dnZ p2)), (3, .int p3), (4, .int l4)] [.long s0] (dnB (fX7_extendPaths_j42 r0 r1 p2 p3 l4 s0) (dnKo K18 E18)) := by
      intro l4 s0
      unfold fX7_extendPaths_j42
      refine dn_lstore (pc := 42) dX7_extendPaths_42 (Nat.le_of_ble_eq_true rfl) (dnKp_nb 4 rfl rfl rfl (dnKp_of (lv2 := [(0, dnV b r0), (1, dnV b r1), (2, .int (dnZ p2)), (3, .int p3)]) [0, 1, 2, 3] rfl rfl)) ?_
      refine dn_aload_n (pc := 44) r0 2 dX7_extendPaths_44 rfl ?_
      refine dn_getR (pc := 45) r0 lRX7_9 dX7_extendPaths_45 (fun v3 => ?_)
      refine dn_iload (pc := 48) 1 dX7_extendPaths_48 rfl ?_
      refine dn_lload (pc := 50) 0 dX7_extendPaths_50 rfl ?_
      refine dn_ldc2 (pc := 52) kRX7_75 dX7_extendPaths_52 ?_
      refine dn_lcmp (pc := 55) dX7_extendPaths_55 ?_
      refine dn_if_ne (pc := 56) 65 dX7_extendPaths_56 rfl (fun _ => ?_) (fun _ => ?_)
      · refine dn_lload (pc := 65) 0 dX7_extendPaths_65 rfl ?_
        refine dn_aload_n (pc := 67) r1 3 dX7_extendPaths_67 rfl ?_
        refine dn_getR (pc := 68) r1 lRX7_77 dX7_extendPaths_68 (fun v4 => ?_)
        refine dn_iload (pc := 71) 1 dX7_extendPaths_71 rfl ?_
        refine dn_lald (pc := 73) v4 dX7_extendPaths_73 (fun v5 => ?_)
        refine dn_ladd (pc := 74) dX7_extendPaths_74 ?_
        exact dn_lv [2, 3, 4, 5, 1] rfl (hj75 l4 v3 l4 (s0 + v5))
      · refine dn_ldc2 (pc := 59) kRX7_75 dX7_extendPaths_59 ?_
        refine dn_goto (pc := 62) 75 dX7_extendPaths_62 rfl ?_
        exact dn_lv [2, 3, 4, 5, 1] rfl (hj75 l4 v3 l4 (-1152921504606846976))
    refine dn_iload (pc := 18) 4 dX7_extendPaths_18 rfl ?_
    refine dn_aload_n (pc := 20) r1 1 dX7_extendPaths_20 rfl ?_
    refine dn_getI (pc := 21) r1 lRX7_55 dX7_extendPaths_21 (fun v6 => ?_)
    refine dn_icmp_ge (pc := 24) 82 dX7_extendPaths_24 rfl (fun _ => ?_) (fun _ => ?_)
    · refine dn_leaf ?_
      exact dn_lv [] rfl (hE18 ())
    · refine dn_iload_n (pc := 27) 2 dX7_extendPaths_27 rfl ?_
      refine dn_ifz_eq (pc := 28) 41 dX7_extendPaths_28 rfl (fun _ => ?_) (fun _ => ?_)
      · refine dn_aload_n (pc := 31) r0 0 dX7_extendPaths_31 rfl ?_
        refine dn_iload (pc := 32) 4 dX7_extendPaths_32 rfl ?_
        refine dn_iload_n (pc := 34) 3 dX7_extendPaths_34 rfl ?_
        refine dn_callV0L (pc := 35) [.int s18, .int p3] r0 kRX7_71 (mX7_bestNear w x b r0 s18 p3) rfl rfl (Nat.le_of_ble_eq_true rfl) ⟨(Nat.le_of_ble_eq_true rfl), (Nat.le_of_ble_eq_true rfl)⟩ ⟨rfl, rfl, (Nat.le_of_ble_eq_true rfl), (Nat.le_of_ble_eq_true rfl)⟩ dX7_extendPaths_35 (fun v7 => ?_)
        refine dn_goto (pc := 38) 42 dX7_extendPaths_38 rfl ?_
        exact dn_lv [0, 1, 2, 3, 4] rfl (hj42 s18 v7)
      · refine dn_lconst (pc := 41) (v := 0) dX7_extendPaths_41 rfl ?_
        exact dn_lv [0, 1, 2, 3, 4] rfl (hj42 s18 0)
  · exact dn_ret (Nat.le_of_ble_eq_true rfl) (Nat.le_of_ble_eq_true rfl) rfl dX7_extendPaths_82
abbrev rmX7_hasEmptyRow : Room := { frames := 2, cells := 0, slots := 0, locals := 45 }
def fX7_hasEmptyRow_j38 (l0 : Option Nat) (l1 : Int32) (l2 : Int32) : dnM ((Int32) ⊕ ((Unit) ⊕ Bool)) :=
  dnP (.inl (l2 + 1))
def fX7_hasEmptyRow_b2 (c0 : Option Nat) (c1 : Int32) (s2 : Int32) : dnM ((Int32) ⊕ ((Unit) ⊕ Bool)) :=
  dnB (dnGR c0 6 0) fun v1 =>
  dnB (dnGR v1 7 0) fun v2 =>
  dnB (dnAI v2 100 c1) fun v3 =>
  if v3 ≤ s2 then
  (dnP (.inr (.inl ())))
  else
  (dnB (dnGR c0 6 0) fun v4 =>
  dnB (dnCv v4 7 (fX9_rowAt v4 c1 s2)) fun v5 =>
  v5.elim
  (fX7_hasEmptyRow_j38 c0 c1 s2)
  (fun v6 => dnB (dnGI (some v6) 4 2) fun v7 =>
  if ¬ v7 = 0 then
  (fX7_hasEmptyRow_j38 c0 c1 s2)
  else
  (dnP (.inr (.inr true)))))
def fX7_hasEmptyRow (r0 : Option Nat) (p1 : Int32) : dnM Bool :=
  dnB (dnIt 1000 (fX7_hasEmptyRow_b2 r0 p1) 0) fun q_ => q_.elim (fun q2 => dnP false) (fun v_ => dnP v_)
abbrev jX7_hasEmptyRow (w : dnWd) (x : dnX) (b : Nat) := dnD w x b (fun _ => True) cX7_hasEmptyRow RX7 4 rmX7_hasEmptyRow "hasEmptyRow" eZ
set_option maxHeartbeats 4000000 in
set_option maxRecDepth 100000 in
theorem mX7_hasEmptyRow (w : dnWd) (x : dnX) (b : Nat) (r0 : Option Nat) (p1 : Int32) : dnMt w x b yX7_hasEmptyRow cX7_hasEmptyRow 4 (some .boolean) rmX7_hasEmptyRow eZ [dnV b r0, .int p1] (fX7_hasEmptyRow r0 p1) := by
  have hlv : lv_args 0 [dnV b r0, .int p1] = [(0, dnV b r0), (1, .int p1)] := by cases r0 <;> rfl
  refine dn_mt (by decide +kernel) roZ (by cases r0 <;> exact (Nat.le_of_ble_eq_true rfl)) ?_
  rw [hlv]
  refine dn_top ?_
  show jX7_hasEmptyRow w x b 0 0 0 _ [] (dnB _ dnP)
  unfold fX7_hasEmptyRow
  refine dn_iconst (pc := 0) (v := 0) dX7_hasEmptyRow_0 rfl ?_
  refine dn_istore_n (pc := 1) dX7_hasEmptyRow_1 (Nat.le_of_ble_eq_true rfl) (dnKp_nb 1 rfl rfl rfl (dnKp_of (lv2 := [(0, dnV b r0)]) [0] rfl rfl)) ?_
  refine dn_assoc ?_
  refine dn_lv [2, 1, 0] (lv2 := (fun s => [(0, dnV b r0), (1, .int p1), (2, .int s)]) 0) rfl ?_
  refine dn_loopR (pc := 2) (body := fX7_hasEmptyRow_b2 r0 p1) 44 (fun s => [(0, dnV b r0), (1, .int p1), (2, .int s)]) (fun q => []) (fun s2 K2 E2 hK2 hE2 hR2 => ?_) (dn_rt (Nat.le_of_ble_eq_true rfl) (Nat.le_of_ble_eq_true rfl) (fun _ => rfl)) (fun q2 => ?_) 1000 0
  · unfold fX7_hasEmptyRow_b2
    have hj38 : ∀ (l2 : Int32), jX7_hasEmptyRow w x b 38 0 0 [(0, dnV b r0), (1, .int p1), (2, .int l2)] [] (dnB (fX7_hasEmptyRow_j38 r0 p1 l2) (dnKo K2 E2)) := by
      intro l2
      unfold fX7_hasEmptyRow_j38
      refine dn_iinc (pc := 38) (l2 + 1) 2 dX7_hasEmptyRow_38 rfl rfl (Nat.le_of_ble_eq_true rfl) (dnKp_nb 1 rfl rfl rfl (dnKp_of (lv2 := [(0, dnV b r0)]) [0] rfl rfl)) ?_
      refine dn_goto (pc := 41) 2 dX7_hasEmptyRow_41 rfl ?_
      refine dn_leaf ?_
      exact dn_lv [2, 1, 0] rfl (hK2 (l2 + 1))
    refine dn_iload_n (pc := 2) 2 dX7_hasEmptyRow_2 rfl ?_
    refine dn_aload_n (pc := 3) r0 0 dX7_hasEmptyRow_3 rfl ?_
    refine dn_getR (pc := 4) r0 lRX7_21 dX7_hasEmptyRow_4 (fun v1 => ?_)
    refine dn_getR (pc := 7) v1 lRX7_43 dX7_hasEmptyRow_7 (fun v2 => ?_)
    refine dn_iload_n (pc := 10) 1 dX7_hasEmptyRow_10 rfl ?_
    refine dn_iald (pc := 11) v2 dX7_hasEmptyRow_11 (fun v3 => ?_)
    refine dn_icmp_ge (pc := 12) 44 dX7_hasEmptyRow_12 rfl (fun _ => ?_) (fun _ => ?_)
    · refine dn_leaf ?_
      exact dn_lv [] rfl (hE2 ())
    · refine dn_aload_n (pc := 15) r0 0 dX7_hasEmptyRow_15 rfl ?_
      refine dn_getR (pc := 16) r0 lRX7_21 dX7_hasEmptyRow_16 (fun v4 => ?_)
      refine dn_iload_n (pc := 19) 1 dX7_hasEmptyRow_19 rfl ?_
      refine dn_iload_n (pc := 20) 2 dX7_hasEmptyRow_20 rfl ?_
      refine dn_callV0R (pc := 21) [.int p1, .int s2] v4 kRX7_47 (mX9_rowAt w x b v4 p1 s2) rfl rfl (Nat.le_of_ble_eq_true rfl) ⟨(Nat.le_of_ble_eq_true rfl), (Nat.le_of_ble_eq_true rfl)⟩ ⟨rfl, rfl, (Nat.le_of_ble_eq_true rfl), (Nat.le_of_ble_eq_true rfl)⟩ dX7_hasEmptyRow_21 (fun v5 => ?_)
      refine dn_astore_n (pc := 24) v5 dX7_hasEmptyRow_24 (Nat.le_of_ble_eq_true rfl) (dnKp_nb 2 rfl rfl rfl (dnKp_of (lv2 := [(0, dnV b r0), (1, .int p1)]) [0, 1] rfl rfl)) ?_
      refine dn_aload_n (pc := 25) v5 0 dX7_hasEmptyRow_25 rfl ?_
      refine dn_ifnull (pc := 26) v5 38 dX7_hasEmptyRow_26 rfl (fun e_ => ?_) (fun v6 e_ => ?_)
      · subst e_
        exact dn_lv [2, 3, 1] rfl (hj38 s2)
      · subst e_
        refine dn_aload_n (pc := 29) (some v6) 0 dX7_hasEmptyRow_29 rfl ?_
        refine dn_getI (pc := 30) (some v6) lRX7_55 dX7_hasEmptyRow_30 (fun v7 => ?_)
        refine dn_if_ne (pc := 33) 38 dX7_hasEmptyRow_33 rfl (fun _ => ?_) (fun _ => ?_)
        · exact dn_lv [2, 3, 1] rfl (hj38 s2)
        · refine dn_iconst (pc := 36) (v := 1) dX7_hasEmptyRow_36 rfl ?_
          refine dn_leaf ?_
          exact hR2 true _ _ _ rfl dX7_hasEmptyRow_37
  · dsimp only [Sum.elim_inl]
    refine dn_iconst (pc := 44) (v := 0) dX7_hasEmptyRow_44 rfl ?_
    exact dn_ret (Nat.le_of_ble_eq_true rfl) (Nat.le_of_ble_eq_true rfl) rfl dX7_hasEmptyRow_45
abbrev rmX7_reportTrail : Room := { frames := 0, cells := 0, slots := 0, locals := 0 }
def fX7_reportTrail_j74 (l0 : Option Nat) (l1 : Int32) (l2 : Int32) : dnM ((Int32) ⊕ (Unit)) :=
  dnP (.inl (l2 + 1))
def fX7_reportTrail_j53 (l0 : Option Nat) (l1 : Int32) (l2 : Int32) : dnM ((Int32) ⊕ (Unit)) :=
  dnB (dnGR l0 6 1) fun v3 =>
  dnB (dnGR l0 6 2) fun v4 =>
  dnB (dnAL v4 102 l2) fun v5 =>
  dnB (dnPL v3 1 0 v5) fun _ =>
  dnB (dnGR l0 6 1) fun v6 =>
  dnB (dnPI v6 1 1 l2) fun _ =>
  fX7_reportTrail_j74 l0 l1 l2
def fX7_reportTrail_b19 (c0 : Option Nat) (c1 : Int32) (s19 : Int32) : dnM ((Int32) ⊕ (Unit)) :=
  if c1 ≤ s19 then
  (dnP (.inr ()))
  else
  (dnB (dnGR c0 6 1) fun v7 =>
  dnB (dnGI v7 1 1) fun v8 =>
  if v8 = (-9) then
  (fX7_reportTrail_j53 c0 c1 s19)
  else
  (dnB (dnGR c0 6 2) fun v9 =>
  dnB (dnAL v9 102 s19) fun v10 =>
  dnB (dnGR c0 6 1) fun v11 =>
  dnB (dnGL v11 1 0) fun v12 =>
  if (lg_cmp v10 v12) ≤ 0 then
  (fX7_reportTrail_j74 c0 c1 s19)
  else
  (fX7_reportTrail_j53 c0 c1 s19)))
def fX7_reportTrail (r0 : Option Nat) (p1 : Int32) : dnM Unit :=
  dnB (dnGR r0 6 1) fun v1 =>
  dnB (dnPL v1 1 0 0) fun _ =>
  dnB (dnGR r0 6 1) fun v2 =>
  dnB (dnPI v2 1 1 (-9)) fun _ =>
  dnB (dnIt 1000 (fX7_reportTrail_b19 r0 p1) 0) fun q19 =>
  dnP ()
abbrev jX7_reportTrail (w : dnWd) (x : dnX) (b : Nat) := dnD w x b (fun _ => True) cX7_reportTrail RX7 3 rmX7_reportTrail "reportTrail" eU
set_option maxHeartbeats 4000000 in
set_option maxRecDepth 100000 in
theorem mX7_reportTrail (w : dnWd) (x : dnX) (b : Nat) (r0 : Option Nat) (p1 : Int32) : dnMt w x b yX7_reportTrail cX7_reportTrail 3 none rmX7_reportTrail eU [dnV b r0, .int p1] (fX7_reportTrail r0 p1) := by
  have hlv : lv_args 0 [dnV b r0, .int p1] = [(0, dnV b r0), (1, .int p1)] := by cases r0 <;> rfl
  refine dn_mt (by decide +kernel) roU (by cases r0 <;> exact (Nat.le_of_ble_eq_true rfl)) ?_
  rw [hlv]
  refine dn_top ?_
  show jX7_reportTrail w x b 0 0 0 _ [] (dnB _ dnP)
  unfold fX7_reportTrail
  refine dn_aload_n (pc := 0) r0 0 dX7_reportTrail_0 rfl ?_
  refine dn_getR (pc := 1) r0 lRX7_25 dX7_reportTrail_1 (fun v1 => ?_)
  refine dn_lconst (pc := 4) (v := 0) dX7_reportTrail_4 rfl ?_
  refine dn_putL (pc := 5) v1 lRX7_88 dX7_reportTrail_5 ?_
  refine dn_aload_n (pc := 8) r0 0 dX7_reportTrail_8 rfl ?_
  refine dn_getR (pc := 9) r0 lRX7_25 dX7_reportTrail_9 (fun v2 => ?_)
  refine dn_bipush (pc := 12) (v := -9) dX7_reportTrail_12 rfl ?_
  refine dn_putI (pc := 14) v2 lRX7_94 dX7_reportTrail_14 ?_
  refine dn_iconst (pc := 17) (v := 0) dX7_reportTrail_17 rfl ?_
  refine dn_istore_n (pc := 18) dX7_reportTrail_18 (Nat.le_of_ble_eq_true rfl) (dnKp_nb 1 rfl rfl rfl (dnKp_of (lv2 := [(0, dnV b r0)]) [0] rfl rfl)) ?_
  refine dn_assoc ?_
  refine dn_lv [2, 1, 0] (lv2 := (fun s => [(0, dnV b r0), (1, .int p1), (2, .int s)]) 0) rfl ?_
  refine dn_loopE (pc := 19) (body := fX7_reportTrail_b19 r0 p1) 80 (fun s => [(0, dnV b r0), (1, .int p1), (2, .int s)]) (fun q => []) (fun s19 K19 E19 hK19 hE19 => ?_) (fun q19 => ?_) 1000 0
  · unfold fX7_reportTrail_b19
    have hj74 : ∀ (l2 : Int32), jX7_reportTrail w x b 74 0 0 [(0, dnV b r0), (1, .int p1), (2, .int l2)] [] (dnB (fX7_reportTrail_j74 r0 p1 l2) (dnKo K19 E19)) := by
      intro l2
      unfold fX7_reportTrail_j74
      refine dn_iinc (pc := 74) (l2 + 1) 2 dX7_reportTrail_74 rfl rfl (Nat.le_of_ble_eq_true rfl) (dnKp_nb 1 rfl rfl rfl (dnKp_of (lv2 := [(0, dnV b r0)]) [0] rfl rfl)) ?_
      refine dn_goto (pc := 77) 19 dX7_reportTrail_77 rfl ?_
      refine dn_leaf ?_
      exact dn_lv [2, 1, 0] rfl (hK19 (l2 + 1))
    have hj53 : ∀ (l2 : Int32), jX7_reportTrail w x b 53 0 0 [(0, dnV b r0), (1, .int p1), (2, .int l2)] [] (dnB (fX7_reportTrail_j53 r0 p1 l2) (dnKo K19 E19)) := by
      intro l2
      unfold fX7_reportTrail_j53
      refine dn_aload_n (pc := 53) r0 0 dX7_reportTrail_53 rfl ?_
      refine dn_getR (pc := 54) r0 lRX7_25 dX7_reportTrail_54 (fun v3 => ?_)
      refine dn_aload_n (pc := 57) r0 0 dX7_reportTrail_57 rfl ?_
      refine dn_getR (pc := 58) r0 lRX7_9 dX7_reportTrail_58 (fun v4 => ?_)
      refine dn_iload_n (pc := 61) 2 dX7_reportTrail_61 rfl ?_
      refine dn_lald (pc := 62) v4 dX7_reportTrail_62 (fun v5 => ?_)
      refine dn_putL (pc := 63) v3 lRX7_88 dX7_reportTrail_63 ?_
      refine dn_aload_n (pc := 66) r0 0 dX7_reportTrail_66 rfl ?_
      refine dn_getR (pc := 67) r0 lRX7_25 dX7_reportTrail_67 (fun v6 => ?_)
      refine dn_iload_n (pc := 70) 2 dX7_reportTrail_70 rfl ?_
      refine dn_putI (pc := 71) v6 lRX7_94 dX7_reportTrail_71 ?_
      exact dn_lv [0, 1, 2] rfl (hj74 l2)
    refine dn_iload_n (pc := 19) 2 dX7_reportTrail_19 rfl ?_
    refine dn_iload_n (pc := 20) 1 dX7_reportTrail_20 rfl ?_
    refine dn_icmp_ge (pc := 21) 80 dX7_reportTrail_21 rfl (fun _ => ?_) (fun _ => ?_)
    · refine dn_leaf ?_
      exact dn_lv [] rfl (hE19 ())
    · refine dn_aload_n (pc := 24) r0 0 dX7_reportTrail_24 rfl ?_
      refine dn_getR (pc := 25) r0 lRX7_25 dX7_reportTrail_25 (fun v7 => ?_)
      refine dn_getI (pc := 28) v7 lRX7_94 dX7_reportTrail_28 (fun v8 => ?_)
      refine dn_bipush (pc := 31) (v := -9) dX7_reportTrail_31 rfl ?_
      refine dn_icmp_eq (pc := 33) 53 dX7_reportTrail_33 rfl (fun _ => ?_) (fun _ => ?_)
      · exact dn_lv [0, 1, 2] rfl (hj53 s19)
      · refine dn_aload_n (pc := 36) r0 0 dX7_reportTrail_36 rfl ?_
        refine dn_getR (pc := 37) r0 lRX7_9 dX7_reportTrail_37 (fun v9 => ?_)
        refine dn_iload_n (pc := 40) 2 dX7_reportTrail_40 rfl ?_
        refine dn_lald (pc := 41) v9 dX7_reportTrail_41 (fun v10 => ?_)
        refine dn_aload_n (pc := 42) r0 0 dX7_reportTrail_42 rfl ?_
        refine dn_getR (pc := 43) r0 lRX7_25 dX7_reportTrail_43 (fun v11 => ?_)
        refine dn_getL (pc := 46) v11 lRX7_88 dX7_reportTrail_46 (fun v12 => ?_)
        refine dn_lcmp (pc := 49) dX7_reportTrail_49 ?_
        refine dn_if_le (pc := 50) 74 dX7_reportTrail_50 rfl (fun _ => ?_) (fun _ => ?_)
        · exact dn_lv [0, 1, 2] rfl (hj74 s19)
        · exact dn_lv [0, 1, 2] rfl (hj53 s19)
  · exact dn_ret (Nat.le_of_ble_eq_true rfl) (Nat.le_of_ble_eq_true rfl) rfl dX7_reportTrail_80
abbrev rmX7_bestTrail : Room := { frames := 4, cells := 0, slots := 0, locals := 87 }
def fX7_bestTrail_j110 (l0 : Option Nat) (l1 : Int32) (l3 : Int32) (l4 : Int32) (l5 : Int32) : dnM ((Int32 × Int32 × Int32) ⊕ (Int32 × Int32)) :=
  dnP (.inl (l3, l4, (l5 + (-1))))
def fX7_bestTrail_j95 (l0 : Option Nat) (l1 : Int32) (l3 : Int32) (l4 : Int32) (l5 : Int32) (l6 : Option Nat) (s0 : Option Nat) (s1 : Option Nat) (s2 : Bool) : dnM ((Int32 × Int32 × Int32) ⊕ (Int32 × Int32)) :=
  dnB (dnCv s0 6 (fX7_extendPaths s0 s1 s2 l4)) fun _ =>
  dnB (dnGI l6 4 2) fun v10 =>
  fX7_bestTrail_j110 l0 l1 (l3 + 1) v10 l5
def fX7_bestTrail_b61 (c0 : Option Nat) (c1 : Int32) (s61 : Int32 × Int32 × Int32) : dnM ((Int32 × Int32 × Int32) ⊕ (Int32 × Int32)) :=
  if s61.2.2 < 0 then
  (dnP (.inr (s61.1, s61.2.1)))
  else
  (dnB (dnGR c0 6 0) fun v11 =>
  dnB (dnCv v11 7 (fX9_rowAt v11 c1 s61.2.2)) fun v12 =>
  v12.elim
  (fX7_bestTrail_j110 c0 c1 s61.1 s61.2.1 s61.2.2)
  (fun v13 => if s61.1 ≤ 0 then
  (fX7_bestTrail_j95 c0 c1 s61.1 s61.2.1 s61.2.2 (some v13) c0 (some v13) false)
  else
  (fX7_bestTrail_j95 c0 c1 s61.1 s61.2.1 s61.2.2 (some v13) c0 (some v13) true)))
def fX7_bestTrail (r0 : Option Nat) (p1 : Int32) : dnM Int32 :=
  dnB (dnGR r0 6 0) fun v1 =>
  dnB (dnCv v1 7 (fX9_gridFault v1 p1)) fun v2 =>
  if 0 ≤ v2 then
  (dnB (dnGR r0 6 0) fun v3 =>
  dnB (dnCv v3 7 (fX9_firstUnreadable v3 p1 4)) fun v4 =>
  if v4 = (-9) then
  (dnB (dnCv r0 6 (fX7_hasEmptyRow r0 p1)) fun v5 =>
  if v5 = true then
  (dnP (-9))
  else
  (dnB (dnGR r0 6 0) fun v6 =>
  dnB (dnGR v6 7 0) fun v7 =>
  dnB (dnAI v7 100 p1) fun v8 =>
  dnB (dnIt 1000 (fX7_bestTrail_b61 r0 p1) (0, 0, (v8 - 1))) fun q61 =>
  dnB (dnCv r0 6 (fX7_reportTrail r0 q61.2)) fun _ =>
  dnP q61.1))
  else
  (dnP (-7)))
  else
  (dnP v2)
abbrev jX7_bestTrail (w : dnWd) (x : dnX) (b : Nat) := dnD w x b (fun _ => True) cX7_bestTrail RX7 7 rmX7_bestTrail "bestTrail" eI
set_option maxHeartbeats 4000000 in
set_option maxRecDepth 100000 in
theorem mX7_bestTrail (w : dnWd) (x : dnX) (b : Nat) (r0 : Option Nat) (p1 : Int32) : dnMt w x b yX7_bestTrail cX7_bestTrail 7 (some .int) rmX7_bestTrail eI [dnV b r0, .int p1] (fX7_bestTrail r0 p1) := by
  have hlv : lv_args 0 [dnV b r0, .int p1] = [(0, dnV b r0), (1, .int p1)] := by cases r0 <;> rfl
  refine dn_mt (by decide +kernel) roI (by cases r0 <;> exact (Nat.le_of_ble_eq_true rfl)) ?_
  rw [hlv]
  refine dn_top ?_
  show jX7_bestTrail w x b 0 0 0 _ [] (dnB _ dnP)
  unfold fX7_bestTrail
  refine dn_aload_n (pc := 0) r0 0 dX7_bestTrail_0 rfl ?_
  refine dn_getR (pc := 1) r0 lRX7_21 dX7_bestTrail_1 (fun v1 => ?_)
  refine dn_iload_n (pc := 4) 1 dX7_bestTrail_4 rfl ?_
  refine dn_callV0I (pc := 5) [.int p1] v1 kRX7_29 (mX9_gridFault w x b v1 p1) rfl rfl (Nat.le_of_ble_eq_true rfl) ⟨(Nat.le_of_ble_eq_true rfl), (Nat.le_of_ble_eq_true rfl)⟩ ⟨rfl, rfl, (Nat.le_of_ble_eq_true rfl), (Nat.le_of_ble_eq_true rfl)⟩ dX7_bestTrail_5 (fun v2 => ?_)
  refine dn_istore_n (pc := 8) dX7_bestTrail_8 (Nat.le_of_ble_eq_true rfl) (dnKp_nb 1 rfl rfl rfl (dnKp_of (lv2 := [(0, dnV b r0)]) [0] rfl rfl)) ?_
  refine dn_iload_n (pc := 9) 0 dX7_bestTrail_9 rfl ?_
  refine dn_if_ge (pc := 10) 15 dX7_bestTrail_10 rfl (fun _ => ?_) (fun _ => ?_)
  · refine dn_aload_n (pc := 15) r0 2 dX7_bestTrail_15 rfl ?_
    refine dn_getR (pc := 16) r0 lRX7_21 dX7_bestTrail_16 (fun v3 => ?_)
    refine dn_iload_n (pc := 19) 1 dX7_bestTrail_19 rfl ?_
    refine dn_iconst (pc := 20) (v := 4) dX7_bestTrail_20 rfl ?_
    refine dn_callV0I (pc := 21) [.int p1, .int 4] v3 kRX7_35 (mX9_firstUnreadable w x b v3 p1 4) rfl rfl (Nat.le_of_ble_eq_true rfl) ⟨(Nat.le_of_ble_eq_true rfl), (Nat.le_of_ble_eq_true rfl)⟩ ⟨rfl, rfl, (Nat.le_of_ble_eq_true rfl), (Nat.le_of_ble_eq_true rfl)⟩ dX7_bestTrail_21 (fun v4 => ?_)
    refine dn_bipush (pc := 24) (v := -9) dX7_bestTrail_24 rfl ?_
    refine dn_icmp_eq (pc := 26) 32 dX7_bestTrail_26 rfl (fun _ => ?_) (fun _ => ?_)
    · refine dn_aload_n (pc := 32) r0 2 dX7_bestTrail_32 rfl ?_
      refine dn_iload_n (pc := 33) 1 dX7_bestTrail_33 rfl ?_
      refine dn_callV0Z (pc := 34) [.int p1] r0 kRX7_39 (mX7_hasEmptyRow w x b r0 p1) rfl rfl (Nat.le_of_ble_eq_true rfl) ⟨(Nat.le_of_ble_eq_true rfl), (Nat.le_of_ble_eq_true rfl)⟩ ⟨rfl, rfl, (Nat.le_of_ble_eq_true rfl), (Nat.le_of_ble_eq_true rfl)⟩ dX7_bestTrail_34 (fun v5 => ?_)
      refine dn_ifz_eq (pc := 37) 43 dX7_bestTrail_37 rfl (fun _ => ?_) (fun _ => ?_)
      · refine dn_bipush (pc := 40) (v := -9) dX7_bestTrail_40 rfl ?_
        exact dn_ret (Nat.le_of_ble_eq_true rfl) (Nat.le_of_ble_eq_true rfl) rfl dX7_bestTrail_42
      · refine dn_iconst (pc := 43) (v := 0) dX7_bestTrail_43 rfl ?_
        refine dn_istore_n (pc := 44) dX7_bestTrail_44 (Nat.le_of_ble_eq_true rfl) (dnKp_of (lv2 := [(1, .int p1), (0, dnV b r0)]) [1, 2] rfl rfl) ?_
        refine dn_iconst (pc := 45) (v := 0) dX7_bestTrail_45 rfl ?_
        refine dn_istore (pc := 46) dX7_bestTrail_46 (Nat.le_of_ble_eq_true rfl) (dnKp_nb 0 rfl rfl rfl (dnKp_of (lv2 := [(1, .int p1), (0, dnV b r0)]) [1, 2] rfl rfl)) ?_
        refine dn_aload_n (pc := 48) r0 3 dX7_bestTrail_48 rfl ?_
        refine dn_getR (pc := 49) r0 lRX7_21 dX7_bestTrail_49 (fun v6 => ?_)
        refine dn_getR (pc := 52) v6 lRX7_43 dX7_bestTrail_52 (fun v7 => ?_)
        refine dn_iload_n (pc := 55) 2 dX7_bestTrail_55 rfl ?_
        refine dn_iald (pc := 56) v7 dX7_bestTrail_56 (fun v8 => ?_)
        refine dn_iconst (pc := 57) (v := 1) dX7_bestTrail_57 rfl ?_
        refine dn_isub (pc := 58) dX7_bestTrail_58 ?_
        refine dn_istore (pc := 59) dX7_bestTrail_59 (Nat.le_of_ble_eq_true rfl) (dnKp_nb 0 rfl rfl rfl (dnKp_of (lv2 := [(3, .int 0), (1, .int p1), (0, dnV b r0)]) [1, 2, 3] rfl rfl)) ?_
        refine dn_assoc ?_
        refine dn_lv [4, 3, 2, 1, 0] (lv2 := (fun s => [(0, dnV b r0), (1, .int p1), (3, .int s.1), (4, .int s.2.1), (5, .int s.2.2)]) (0, 0, (v8 - 1))) rfl ?_
        refine dn_loopE (pc := 61) (body := fX7_bestTrail_b61 r0 p1) 116 (fun s => [(0, dnV b r0), (1, .int p1), (3, .int s.1), (4, .int s.2.1), (5, .int s.2.2)]) (fun q => [(0, dnV b r0), (3, .int q.1), (4, .int q.2)]) (fun s61 K61 E61 hK61 hE61 => ?_) (fun q61 => ?_) 1000 (0, 0, (v8 - 1))
        · unfold fX7_bestTrail_b61
          have hj110 : ∀ (l3 : Int32) (l4 : Int32) (l5 : Int32), jX7_bestTrail w x b 110 0 0 [(0, dnV b r0), (1, .int p1), (3, .int l3), (4, .int l4), (5, .int l5)] [] (dnB (fX7_bestTrail_j110 r0 p1 l3 l4 l5) (dnKo K61 E61)) := by
            intro l3 l4 l5
            unfold fX7_bestTrail_j110
            refine dn_iinc (pc := 110) (l5 + (-1)) 4 dX7_bestTrail_110 rfl rfl (Nat.le_of_ble_eq_true rfl) (dnKp_nb 3 rfl rfl rfl (dnKp_of (lv2 := [(0, dnV b r0), (1, .int p1), (3, .int l3)]) [0, 1, 2] rfl rfl)) ?_
            refine dn_goto (pc := 113) 61 dX7_bestTrail_113 rfl ?_
            refine dn_leaf ?_
            exact dn_lv [2, 3, 4, 1, 0] rfl (hK61 (l3, l4, (l5 + (-1))))
          have hj95 : ∀ (l3 : Int32) (l4 : Int32) (l5 : Int32) (l6 : Option Nat) (s0 : Option Nat) (s1 : Option Nat) (s2 : Bool), jX7_bestTrail w x b 95 0 0 [(0, dnV b r0), (1, .int p1), (3, .int l3), (4, .int l4), (5, .int l5), (6, dnV b l6)] [.int (dnZ s2), dnV b s1, dnV b s0] (dnB (fX7_bestTrail_j95 r0 p1 l3 l4 l5 l6 s0 s1 s2) (dnKo K61 E61)) := by
            intro l3 l4 l5 l6 s0 s1 s2
            unfold fX7_bestTrail_j95
            refine dn_iload (pc := 95) 3 dX7_bestTrail_95 rfl ?_
            refine dn_callV0U (pc := 97) [dnV b s1, .int (dnZ s2), .int l4] s0 kRX7_51 (mX7_extendPaths w x b s0 s1 s2 l4) rfl rfl (Nat.le_of_ble_eq_true rfl) ⟨(Nat.le_of_ble_eq_true rfl), (Nat.le_of_ble_eq_true rfl)⟩ ⟨rfl, rfl, (Nat.le_of_ble_eq_true rfl), (Nat.le_of_ble_eq_true rfl)⟩ dX7_bestTrail_97 (fun _ => ?_)
            refine dn_aload (pc := 100) l6 5 dX7_bestTrail_100 rfl ?_
            refine dn_getI (pc := 102) l6 lRX7_55 dX7_bestTrail_102 (fun v10 => ?_)
            refine dn_istore (pc := 105) dX7_bestTrail_105 (Nat.le_of_ble_eq_true rfl) (dnKp_nb 2 rfl rfl rfl (dnKp_of (lv2 := [(0, dnV b r0), (1, .int p1), (5, .int l5)]) [0, 1, 4] rfl rfl)) ?_
            refine dn_iinc (pc := 107) (l3 + 1) 1 dX7_bestTrail_107 rfl rfl (Nat.le_of_ble_eq_true rfl) (dnKp_of (lv2 := [(4, .int v10), (0, dnV b r0), (1, .int p1), (5, .int l5)]) [0, 2, 3, 4] rfl rfl) ?_
            exact dn_lv [2, 3, 0, 1, 4] rfl (hj110 (l3 + 1) v10 l5)
          refine dn_iload (pc := 61) 4 dX7_bestTrail_61 rfl ?_
          refine dn_if_lt (pc := 63) 116 dX7_bestTrail_63 rfl (fun _ => ?_) (fun _ => ?_)
          · refine dn_leaf ?_
            exact dn_lv [0, 2, 3] rfl (hE61 (s61.1, s61.2.1))
          · refine dn_aload_n (pc := 66) r0 0 dX7_bestTrail_66 rfl ?_
            refine dn_getR (pc := 67) r0 lRX7_21 dX7_bestTrail_67 (fun v11 => ?_)
            refine dn_iload_n (pc := 70) 1 dX7_bestTrail_70 rfl ?_
            refine dn_iload (pc := 71) 4 dX7_bestTrail_71 rfl ?_
            refine dn_callV0R (pc := 73) [.int p1, .int s61.2.2] v11 kRX7_47 (mX9_rowAt w x b v11 p1 s61.2.2) rfl rfl (Nat.le_of_ble_eq_true rfl) ⟨(Nat.le_of_ble_eq_true rfl), (Nat.le_of_ble_eq_true rfl)⟩ ⟨rfl, rfl, (Nat.le_of_ble_eq_true rfl), (Nat.le_of_ble_eq_true rfl)⟩ dX7_bestTrail_73 (fun v12 => ?_)
            refine dn_astore (pc := 76) v12 dX7_bestTrail_76 (Nat.le_of_ble_eq_true rfl) (dnKp_nb 4 rfl rfl rfl (dnKp_of (lv2 := [(0, dnV b r0), (1, .int p1), (3, .int s61.1), (4, .int s61.2.1)]) [0, 1, 2, 3] rfl rfl)) ?_
            refine dn_aload (pc := 78) v12 0 dX7_bestTrail_78 rfl ?_
            refine dn_ifnull (pc := 80) v12 110 dX7_bestTrail_80 rfl (fun e_ => ?_) (fun v13 e_ => ?_)
            · subst e_
              exact dn_lv [2, 3, 4, 5, 1] rfl (hj110 s61.1 s61.2.1 s61.2.2)
            · subst e_
              refine dn_aload_n (pc := 83) r0 2 dX7_bestTrail_83 rfl ?_
              refine dn_aload (pc := 84) (some v13) 0 dX7_bestTrail_84 rfl ?_
              refine dn_iload_n (pc := 86) 4 dX7_bestTrail_86 rfl ?_
              refine dn_if_le (pc := 87) 94 dX7_bestTrail_87 rfl (fun _ => ?_) (fun _ => ?_)
              · refine dn_iconst (pc := 94) (v := 0) dX7_bestTrail_94 rfl ?_
                exact dn_lv [2, 3, 4, 5, 1, 0] rfl (hj95 s61.1 s61.2.1 s61.2.2 (some v13) r0 (some v13) false)
              · refine dn_iconst (pc := 90) (v := 1) dX7_bestTrail_90 rfl ?_
                refine dn_goto (pc := 91) 95 dX7_bestTrail_91 rfl ?_
                exact dn_lv [2, 3, 4, 5, 1, 0] rfl (hj95 s61.1 s61.2.1 s61.2.2 (some v13) r0 (some v13) true)
        · refine dn_aload_n (pc := 116) r0 0 dX7_bestTrail_116 rfl ?_
          refine dn_iload (pc := 117) 2 dX7_bestTrail_117 rfl ?_
          refine dn_callV0U (pc := 119) [.int q61.2] r0 kRX7_61 (mX7_reportTrail w x b r0 q61.2) rfl rfl (Nat.le_of_ble_eq_true rfl) ⟨(Nat.le_of_ble_eq_true rfl), (Nat.le_of_ble_eq_true rfl)⟩ ⟨rfl, rfl, (Nat.le_of_ble_eq_true rfl), (Nat.le_of_ble_eq_true rfl)⟩ dX7_bestTrail_119 (fun _ => ?_)
          refine dn_iload_n (pc := 122) 1 dX7_bestTrail_122 rfl ?_
          exact dn_ret (Nat.le_of_ble_eq_true rfl) (Nat.le_of_ble_eq_true rfl) rfl dX7_bestTrail_123
    · refine dn_bipush (pc := 29) (v := -7) dX7_bestTrail_29 rfl ?_
      exact dn_ret (Nat.le_of_ble_eq_true rfl) (Nat.le_of_ble_eq_true rfl) rfl dX7_bestTrail_31
  · refine dn_iload_n (pc := 13) 0 dX7_bestTrail_13 rfl ?_
    exact dn_ret (Nat.le_of_ble_eq_true rfl) (Nat.le_of_ble_eq_true rfl) rfl dX7_bestTrail_14
abbrev rmX12_trail : Room := { frames := 5, cells := 0, slots := 0, locals := 113 }
def fX12_trail (r0 : Option Nat) (p1 : Int32) : dnM Int32 :=
  dnB (dnGR r0 10 7) fun v1 =>
  dnB (dnCv v1 6 (fX7_bestTrail v1 p1)) fun v2 =>
  dnB (dnCv r0 10 (fX12_tally r0 v2)) fun v3 =>
  dnP v3
abbrev jX12_trail (w : dnWd) (x : dnX) (b : Nat) := dnD w x b (fun _ => True) cX12_trail RX12 2 rmX12_trail "trail" eI
set_option maxHeartbeats 4000000 in
set_option maxRecDepth 100000 in
theorem mX12_trail (w : dnWd) (x : dnX) (b : Nat) (r0 : Option Nat) (p1 : Int32) : dnMt w x b yX12_trail cX12_trail 2 (some .int) rmX12_trail eI [dnV b r0, .int p1] (fX12_trail r0 p1) := by
  have hlv : lv_args 0 [dnV b r0, .int p1] = [(0, dnV b r0), (1, .int p1)] := by cases r0 <;> rfl
  refine dn_mt (by decide +kernel) roI (by cases r0 <;> exact (Nat.le_of_ble_eq_true rfl)) ?_
  rw [hlv]
  refine dn_top ?_
  show jX12_trail w x b 0 0 0 _ [] (dnB _ dnP)
  unfold fX12_trail
  refine dn_aload_n (pc := 0) r0 0 dX12_trail_0 rfl ?_
  refine dn_aload_n (pc := 1) r0 0 dX12_trail_1 rfl ?_
  refine dn_getR (pc := 2) r0 lRX12_56 dX12_trail_2 (fun v1 => ?_)
  refine dn_iload_n (pc := 5) 1 dX12_trail_5 rfl ?_
  refine dn_callV0I (pc := 6) [.int p1] v1 kRX12_188 (mX7_bestTrail w x b v1 p1) rfl rfl (Nat.le_of_ble_eq_true rfl) ⟨(Nat.le_of_ble_eq_true rfl), (Nat.le_of_ble_eq_true rfl)⟩ ⟨rfl, rfl, (Nat.le_of_ble_eq_true rfl), (Nat.le_of_ble_eq_true rfl)⟩ dX12_trail_6 (fun v2 => ?_)
  refine dn_callV0I (pc := 9) [.int v2] r0 kRX12_91 (mX12_tally w x b r0 v2) rfl rfl (Nat.le_of_ble_eq_true rfl) ⟨(Nat.le_of_ble_eq_true rfl), (Nat.le_of_ble_eq_true rfl)⟩ ⟨rfl, rfl, (Nat.le_of_ble_eq_true rfl), (Nat.le_of_ble_eq_true rfl)⟩ dX12_trail_9 (fun v3 => ?_)
  exact dn_ret (Nat.le_of_ble_eq_true rfl) (Nat.le_of_ble_eq_true rfl) rfl dX12_trail_12
abbrev rmX12_turn : Room := { frames := 6, cells := 0, slots := 0, locals := 146 }
def fX12_turn (r0 : Option Nat) (p1 : Int32) (p2 : Int32) : dnM Int32 :=
  dnB (dnGR r0 10 5) fun v1 =>
  dnB (dnCv v1 9 (fX11_transpose v1 p1 p2)) fun v2 =>
  dnB (dnCv r0 10 (fX12_tally r0 v2)) fun v3 =>
  dnP v3
abbrev jX12_turn (w : dnWd) (x : dnX) (b : Nat) := dnD w x b (fun _ => True) cX12_turn RX12 3 rmX12_turn "turn" eI
set_option maxHeartbeats 4000000 in
set_option maxRecDepth 100000 in
theorem mX12_turn (w : dnWd) (x : dnX) (b : Nat) (r0 : Option Nat) (p1 : Int32) (p2 : Int32) : dnMt w x b yX12_turn cX12_turn 3 (some .int) rmX12_turn eI [dnV b r0, .int p1, .int p2] (fX12_turn r0 p1 p2) := by
  have hlv : lv_args 0 [dnV b r0, .int p1, .int p2] = [(0, dnV b r0), (1, .int p1), (2, .int p2)] := by cases r0 <;> rfl
  refine dn_mt (by decide +kernel) roI (by cases r0 <;> exact (Nat.le_of_ble_eq_true rfl)) ?_
  rw [hlv]
  refine dn_top ?_
  show jX12_turn w x b 0 0 0 _ [] (dnB _ dnP)
  unfold fX12_turn
  refine dn_aload_n (pc := 0) r0 0 dX12_turn_0 rfl ?_
  refine dn_aload_n (pc := 1) r0 0 dX12_turn_1 rfl ?_
  refine dn_getR (pc := 2) r0 lRX12_42 dX12_turn_2 (fun v1 => ?_)
  refine dn_iload_n (pc := 5) 1 dX12_turn_5 rfl ?_
  refine dn_iload_n (pc := 6) 2 dX12_turn_6 rfl ?_
  refine dn_callV0I (pc := 7) [.int p1, .int p2] v1 kRX12_176 (mX11_transpose w x b v1 p1 p2) rfl rfl (Nat.le_of_ble_eq_true rfl) ⟨(Nat.le_of_ble_eq_true rfl), (Nat.le_of_ble_eq_true rfl)⟩ ⟨rfl, rfl, (Nat.le_of_ble_eq_true rfl), (Nat.le_of_ble_eq_true rfl)⟩ dX12_turn_7 (fun v2 => ?_)
  refine dn_callV0I (pc := 10) [.int v2] r0 kRX12_91 (mX12_tally w x b r0 v2) rfl rfl (Nat.le_of_ble_eq_true rfl) ⟨(Nat.le_of_ble_eq_true rfl), (Nat.le_of_ble_eq_true rfl)⟩ ⟨rfl, rfl, (Nat.le_of_ble_eq_true rfl), (Nat.le_of_ble_eq_true rfl)⟩ dX12_turn_10 (fun v3 => ?_)
  exact dn_ret (Nat.le_of_ble_eq_true rfl) (Nat.le_of_ble_eq_true rfl) rfl dX12_turn_13
abbrev rmX3_append : Room := { frames := 0, cells := 0, slots := 0, locals := 0 }
def fX3_append (r0 : Option Nat) (p1 : Int32) : dnM Int32 :=
  if p1 < 0 then
  (dnP (-1))
  else
  (if p1 ≤ 255 then
  (dnB (dnGI r0 2 1) fun v1 =>
  if ¬ v1 = 80 then
  (dnB (dnGR r0 2 0) fun v2 =>
  dnB (dnGI r0 2 1) fun v3 =>
  dnB (dnTI v2 101 v3 (vp_nar .char (((p1 : Int32).toUInt32 % 65536).toInt32))) fun _ =>
  dnB (dnGI r0 2 1) fun v4 =>
  dnB (dnPI r0 2 1 (v4 + 1)) fun _ =>
  dnB (dnGI r0 2 1) fun v5 =>
  dnP v5)
  else
  (dnP (-10)))
  else
  (dnP (-1)))
abbrev jX3_append (w : dnWd) (x : dnX) (b : Nat) := dnD w x b (fun _ => True) cX3_append RX3 2 rmX3_append "append" eI
set_option maxHeartbeats 4000000 in
set_option maxRecDepth 100000 in
theorem mX3_append (w : dnWd) (x : dnX) (b : Nat) (r0 : Option Nat) (p1 : Int32) : dnMt w x b yX3_append cX3_append 2 (some .int) rmX3_append eI [dnV b r0, .int p1] (fX3_append r0 p1) := by
  have hlv : lv_args 0 [dnV b r0, .int p1] = [(0, dnV b r0), (1, .int p1)] := by cases r0 <;> rfl
  refine dn_mt (by decide +kernel) roI (by cases r0 <;> exact (Nat.le_of_ble_eq_true rfl)) ?_
  rw [hlv]
  refine dn_top ?_
  show jX3_append w x b 0 0 0 _ [] (dnB _ dnP)
  unfold fX3_append
  refine dn_iload_n (pc := 0) 1 dX3_append_0 rfl ?_
  refine dn_if_lt (pc := 1) 11 dX3_append_1 rfl (fun _ => ?_) (fun _ => ?_)
  · refine dn_iconst (pc := 11) (v := -1) dX3_append_11 rfl ?_
    exact dn_ret (Nat.le_of_ble_eq_true rfl) (Nat.le_of_ble_eq_true rfl) rfl dX3_append_12
  · refine dn_iload_n (pc := 4) 1 dX3_append_4 rfl ?_
    refine dn_sipush (pc := 5) (v := 255) dX3_append_5 rfl ?_
    refine dn_icmp_le (pc := 8) 13 dX3_append_8 rfl (fun _ => ?_) (fun _ => ?_)
    · refine dn_aload_n (pc := 13) r0 0 dX3_append_13 rfl ?_
      refine dn_getI (pc := 14) r0 lRX3_15 dX3_append_14 (fun v1 => ?_)
      refine dn_bipush (pc := 17) (v := 80) dX3_append_17 rfl ?_
      refine dn_icmp_ne (pc := 19) 25 dX3_append_19 rfl (fun _ => ?_) (fun _ => ?_)
      · refine dn_aload_n (pc := 25) r0 0 dX3_append_25 rfl ?_
        refine dn_getR (pc := 26) r0 lRX3_9 dX3_append_26 (fun v2 => ?_)
        refine dn_aload_n (pc := 29) r0 0 dX3_append_29 rfl ?_
        refine dn_getI (pc := 30) r0 lRX3_15 dX3_append_30 (fun v3 => ?_)
        refine dn_iload_n (pc := 33) 1 dX3_append_33 rfl ?_
        refine dn_i2c (pc := 34) dX3_append_34 ?_
        refine dn_cast (pc := 35) v2 dX3_append_35 ?_
        refine dn_aload_n (pc := 36) r0 0 dX3_append_36 rfl ?_
        refine dn_dup (pc := 37) dX3_append_37 (dn_cat b _) ?_
        refine dn_getI (pc := 38) r0 lRX3_15 dX3_append_38 (fun v4 => ?_)
        refine dn_iconst (pc := 41) (v := 1) dX3_append_41 rfl ?_
        refine dn_iadd (pc := 42) dX3_append_42 ?_
        refine dn_putI (pc := 43) r0 lRX3_15 dX3_append_43 ?_
        refine dn_aload_n (pc := 46) r0 0 dX3_append_46 rfl ?_
        refine dn_getI (pc := 47) r0 lRX3_15 dX3_append_47 (fun v5 => ?_)
        exact dn_ret (Nat.le_of_ble_eq_true rfl) (Nat.le_of_ble_eq_true rfl) rfl dX3_append_50
      · refine dn_bipush (pc := 22) (v := -10) dX3_append_22 rfl ?_
        exact dn_ret (Nat.le_of_ble_eq_true rfl) (Nat.le_of_ble_eq_true rfl) rfl dX3_append_24
    · refine dn_iconst (pc := 11) (v := -1) dX3_append_11 rfl ?_
      exact dn_ret (Nat.le_of_ble_eq_true rfl) (Nat.le_of_ble_eq_true rfl) rfl dX3_append_12
abbrev rmX12_type : Room := { frames := 1, cells := 0, slots := 0, locals := 21 }
def fX12_type (r0 : Option Nat) (p1 : Int32) : dnM Int32 :=
  dnB (dnGR r0 10 9) fun v1 =>
  dnB (dnCv v1 2 (fX3_append v1 p1)) fun v2 =>
  dnB (dnCv r0 10 (fX12_tally r0 v2)) fun v3 =>
  dnP v3
abbrev jX12_type (w : dnWd) (x : dnX) (b : Nat) := dnD w x b (fun _ => True) cX12_type RX12 2 rmX12_type "type" eI
set_option maxHeartbeats 4000000 in
set_option maxRecDepth 100000 in
theorem mX12_type (w : dnWd) (x : dnX) (b : Nat) (r0 : Option Nat) (p1 : Int32) : dnMt w x b yX12_type cX12_type 2 (some .int) rmX12_type eI [dnV b r0, .int p1] (fX12_type r0 p1) := by
  have hlv : lv_args 0 [dnV b r0, .int p1] = [(0, dnV b r0), (1, .int p1)] := by cases r0 <;> rfl
  refine dn_mt (by decide +kernel) roI (by cases r0 <;> exact (Nat.le_of_ble_eq_true rfl)) ?_
  rw [hlv]
  refine dn_top ?_
  show jX12_type w x b 0 0 0 _ [] (dnB _ dnP)
  unfold fX12_type
  refine dn_aload_n (pc := 0) r0 0 dX12_type_0 rfl ?_
  refine dn_aload_n (pc := 1) r0 0 dX12_type_1 rfl ?_
  refine dn_getR (pc := 2) r0 lRX12_70 dX12_type_2 (fun v1 => ?_)
  refine dn_iload_n (pc := 5) 1 dX12_type_5 rfl ?_
  refine dn_callV0I (pc := 6) [.int p1] v1 kRX12_206 (mX3_append w x b v1 p1) rfl rfl (Nat.le_of_ble_eq_true rfl) ⟨(Nat.le_of_ble_eq_true rfl), (Nat.le_of_ble_eq_true rfl)⟩ ⟨rfl, rfl, (Nat.le_of_ble_eq_true rfl), (Nat.le_of_ble_eq_true rfl)⟩ dX12_type_6 (fun v2 => ?_)
  refine dn_callV0I (pc := 9) [.int v2] r0 kRX12_91 (mX12_tally w x b r0 v2) rfl rfl (Nat.le_of_ble_eq_true rfl) ⟨(Nat.le_of_ble_eq_true rfl), (Nat.le_of_ble_eq_true rfl)⟩ ⟨rfl, rfl, (Nat.le_of_ble_eq_true rfl), (Nat.le_of_ble_eq_true rfl)⟩ dX12_type_9 (fun v3 => ?_)
  exact dn_ret (Nat.le_of_ble_eq_true rfl) (Nat.le_of_ble_eq_true rfl) rfl dX12_type_12
abbrev rmX6_writeCell : Room := { frames := 5, cells := 0, slots := 0, locals := 114 }
def fX6_writeCell_j56 (l0 : Option Nat) (l1 : Int32) (l2 : Int32) (l3 : Int32) (l4 : Int32) (l5 : Int64) : dnM Int32 :=
  dnB (dnCv l0 5 (fX6_putCell l0 l1 l2 l3 l4 l5)) fun v1 =>
  dnP v1
def fX6_writeCell (r0 : Option Nat) (p1 : Int32) (p2 : Int32) (p3 : Int32) (p4 : Int32) (p5 : Int64) : dnM Int32 :=
  dnB (fX12_isGrid p1) fun v2 =>
  if v2 = true then
  (dnB (fX12_isPlain p4) fun v3 =>
  if v3 = true then
  (dnB (dnGR r0 5 0) fun v4 =>
  dnB (dnCv v4 7 (fX9_rowAt v4 p1 p2)) fun v5 =>
  v5.elim
  (fX6_writeCell_j56 r0 p1 p2 p3 p4 p5)
  (fun v6 => dnB (dnCv (some v6) 4 (fX5_hasCell (some v6) p3)) fun v7 =>
  if v7 = true then
  (dnB (dnGI (some v6) 4 1) fun v8 =>
  dnB (fX12_isPlain v8) fun v9 =>
  if v9 = true then
  (fX6_writeCell_j56 r0 p1 p2 p3 p4 p5)
  else
  (dnP (-7)))
  else
  (fX6_writeCell_j56 r0 p1 p2 p3 p4 p5)))
  else
  (dnP (-1)))
  else
  (dnP (-1))
abbrev jX6_writeCell (w : dnWd) (x : dnX) (b : Nat) := dnD w x b (fun _ => True) cX6_writeCell RX6 8 rmX6_writeCell "writeCell" eI
set_option maxHeartbeats 4000000 in
set_option maxRecDepth 100000 in
theorem mX6_writeCell (w : dnWd) (x : dnX) (b : Nat) (r0 : Option Nat) (p1 : Int32) (p2 : Int32) (p3 : Int32) (p4 : Int32) (p5 : Int64) : dnMt w x b yX6_writeCell cX6_writeCell 8 (some .int) rmX6_writeCell eI [dnV b r0, .int p1, .int p2, .int p3, .int p4, .long p5] (fX6_writeCell r0 p1 p2 p3 p4 p5) := by
  have hlv : lv_args 0 [dnV b r0, .int p1, .int p2, .int p3, .int p4, .long p5] = [(0, dnV b r0), (1, .int p1), (2, .int p2), (3, .int p3), (4, .int p4), (5, .long p5)] := by cases r0 <;> rfl
  refine dn_mt (by decide +kernel) roI (by cases r0 <;> exact (Nat.le_of_ble_eq_true rfl)) ?_
  rw [hlv]
  refine dn_top ?_
  show jX6_writeCell w x b 0 0 0 _ [] (dnB _ dnP)
  unfold fX6_writeCell
  have hj56 : ∀ (l0 : Option Nat) (l1 : Int32) (l2 : Int32) (l3 : Int32) (l4 : Int32) (l5 : Int64), jX6_writeCell w x b 56 0 0 [(0, dnV b l0), (1, .int l1), (2, .int l2), (3, .int l3), (4, .int l4), (5, .long l5)] [] (dnB (fX6_writeCell_j56 l0 l1 l2 l3 l4 l5) dnP) := by
    intro l0 l1 l2 l3 l4 l5
    unfold fX6_writeCell_j56
    refine dn_aload_n (pc := 56) l0 0 dX6_writeCell_56 rfl ?_
    refine dn_iload_n (pc := 57) 1 dX6_writeCell_57 rfl ?_
    refine dn_iload_n (pc := 58) 2 dX6_writeCell_58 rfl ?_
    refine dn_iload_n (pc := 59) 3 dX6_writeCell_59 rfl ?_
    refine dn_iload (pc := 60) 4 dX6_writeCell_60 rfl ?_
    refine dn_lload (pc := 62) 5 dX6_writeCell_62 rfl ?_
    refine dn_callV0I (pc := 64) [.int l1, .int l2, .int l3, .int l4, .long l5] l0 kRX6_81 (mX6_putCell w x b l0 l1 l2 l3 l4 l5) rfl rfl (Nat.le_of_ble_eq_true rfl) ⟨(Nat.le_of_ble_eq_true rfl), (Nat.le_of_ble_eq_true rfl)⟩ ⟨rfl, rfl, (Nat.le_of_ble_eq_true rfl), (Nat.le_of_ble_eq_true rfl)⟩ dX6_writeCell_64 (fun v1 => ?_)
    exact dn_ret (Nat.le_of_ble_eq_true rfl) (Nat.le_of_ble_eq_true rfl) rfl dX6_writeCell_67
  refine dn_iload_n (pc := 0) 1 dX6_writeCell_0 rfl ?_
  refine dn_callSN0Z (pc := 1) [.int p1]  kRX6_31 (mX12_isGrid w x b p1) rfl rfl (Nat.le_of_ble_eq_true rfl) ⟨(Nat.le_of_ble_eq_true rfl), (Nat.le_of_ble_eq_true rfl)⟩ ⟨rfl, rfl, (Nat.le_of_ble_eq_true rfl), (Nat.le_of_ble_eq_true rfl)⟩ dX6_writeCell_1 (fun v2 => ?_)
  refine dn_ifz_eq (pc := 4) 15 dX6_writeCell_4 rfl (fun _ => ?_) (fun _ => ?_)
  · refine dn_iload (pc := 7) 4 dX6_writeCell_7 rfl ?_
    refine dn_callSN0Z (pc := 9) [.int p4]  kRX6_78 (mX12_isPlain w x b p4) rfl rfl (Nat.le_of_ble_eq_true rfl) ⟨(Nat.le_of_ble_eq_true rfl), (Nat.le_of_ble_eq_true rfl)⟩ ⟨rfl, rfl, (Nat.le_of_ble_eq_true rfl), (Nat.le_of_ble_eq_true rfl)⟩ dX6_writeCell_9 (fun v3 => ?_)
    refine dn_ifz_ne (pc := 12) 17 dX6_writeCell_12 rfl (fun _ => ?_) (fun _ => ?_)
    · refine dn_aload_n (pc := 17) r0 0 dX6_writeCell_17 rfl ?_
      refine dn_getR (pc := 18) r0 lRX6_23 dX6_writeCell_18 (fun v4 => ?_)
      refine dn_iload_n (pc := 21) 1 dX6_writeCell_21 rfl ?_
      refine dn_iload_n (pc := 22) 2 dX6_writeCell_22 rfl ?_
      refine dn_callV0R (pc := 23) [.int p1, .int p2] v4 kRX6_35 (mX9_rowAt w x b v4 p1 p2) rfl rfl (Nat.le_of_ble_eq_true rfl) ⟨(Nat.le_of_ble_eq_true rfl), (Nat.le_of_ble_eq_true rfl)⟩ ⟨rfl, rfl, (Nat.le_of_ble_eq_true rfl), (Nat.le_of_ble_eq_true rfl)⟩ dX6_writeCell_23 (fun v5 => ?_)
      refine dn_astore (pc := 26) v5 dX6_writeCell_26 (Nat.le_of_ble_eq_true rfl) (dnKp_of (lv2 := [(0, dnV b r0), (1, .int p1), (2, .int p2), (3, .int p3), (4, .int p4), (5, .long p5)]) [0, 1, 2, 3, 4, 5] rfl rfl) ?_
      refine dn_aload (pc := 28) v5 0 dX6_writeCell_28 rfl ?_
      refine dn_ifnull (pc := 30) v5 56 dX6_writeCell_30 rfl (fun e_ => ?_) (fun v6 e_ => ?_)
      · subst e_
        exact dn_lv [1, 2, 3, 4, 5, 6] rfl (hj56 r0 p1 p2 p3 p4 p5)
      · subst e_
        refine dn_aload (pc := 33) (some v6) 0 dX6_writeCell_33 rfl ?_
        refine dn_iload_n (pc := 35) 4 dX6_writeCell_35 rfl ?_
        refine dn_callV0Z (pc := 36) [.int p3] (some v6) kRX6_45 (mX5_hasCell w x b (some v6) p3) rfl rfl (Nat.le_of_ble_eq_true rfl) ⟨(Nat.le_of_ble_eq_true rfl), (Nat.le_of_ble_eq_true rfl)⟩ ⟨rfl, rfl, (Nat.le_of_ble_eq_true rfl), (Nat.le_of_ble_eq_true rfl)⟩ dX6_writeCell_36 (fun v7 => ?_)
        refine dn_ifz_eq (pc := 39) 56 dX6_writeCell_39 rfl (fun _ => ?_) (fun _ => ?_)
        · refine dn_aload (pc := 42) (some v6) 0 dX6_writeCell_42 rfl ?_
          refine dn_getI (pc := 44) (some v6) lRX6_48 dX6_writeCell_44 (fun v8 => ?_)
          refine dn_callSN0Z (pc := 47) [.int v8]  kRX6_78 (mX12_isPlain w x b v8) rfl rfl (Nat.le_of_ble_eq_true rfl) ⟨(Nat.le_of_ble_eq_true rfl), (Nat.le_of_ble_eq_true rfl)⟩ ⟨rfl, rfl, (Nat.le_of_ble_eq_true rfl), (Nat.le_of_ble_eq_true rfl)⟩ dX6_writeCell_47 (fun v9 => ?_)
          refine dn_ifz_ne (pc := 50) 56 dX6_writeCell_50 rfl (fun _ => ?_) (fun _ => ?_)
          · exact dn_lv [1, 2, 3, 4, 5, 6] rfl (hj56 r0 p1 p2 p3 p4 p5)
          · refine dn_bipush (pc := 53) (v := -7) dX6_writeCell_53 rfl ?_
            exact dn_ret (Nat.le_of_ble_eq_true rfl) (Nat.le_of_ble_eq_true rfl) rfl dX6_writeCell_55
        · exact dn_lv [1, 2, 3, 4, 5, 6] rfl (hj56 r0 p1 p2 p3 p4 p5)
    · refine dn_iconst (pc := 15) (v := -1) dX6_writeCell_15 rfl ?_
      exact dn_ret (Nat.le_of_ble_eq_true rfl) (Nat.le_of_ble_eq_true rfl) rfl dX6_writeCell_16
  · refine dn_iconst (pc := 15) (v := -1) dX6_writeCell_15 rfl ?_
    exact dn_ret (Nat.le_of_ble_eq_true rfl) (Nat.le_of_ble_eq_true rfl) rfl dX6_writeCell_16
abbrev rmX12_write : Room := { frames := 6, cells := 0, slots := 0, locals := 141 }
def fX12_write (r0 : Option Nat) (p1 : Int32) (p2 : Int32) (p3 : Int32) (p4 : Int32) (p5 : Int64) : dnM Int32 :=
  dnB (dnGR r0 10 4) fun v1 =>
  dnB (dnCv v1 5 (fX6_writeCell v1 p1 p2 p3 p4 p5)) fun v2 =>
  dnB (dnCv r0 10 (fX12_tally r0 v2)) fun v3 =>
  dnP v3
abbrev jX12_write (w : dnWd) (x : dnX) (b : Nat) := dnD w x b (fun _ => True) cX12_write RX12 7 rmX12_write "write" eI
set_option maxHeartbeats 4000000 in
set_option maxRecDepth 100000 in
theorem mX12_write (w : dnWd) (x : dnX) (b : Nat) (r0 : Option Nat) (p1 : Int32) (p2 : Int32) (p3 : Int32) (p4 : Int32) (p5 : Int64) : dnMt w x b yX12_write cX12_write 7 (some .int) rmX12_write eI [dnV b r0, .int p1, .int p2, .int p3, .int p4, .long p5] (fX12_write r0 p1 p2 p3 p4 p5) := by
  have hlv : lv_args 0 [dnV b r0, .int p1, .int p2, .int p3, .int p4, .long p5] = [(0, dnV b r0), (1, .int p1), (2, .int p2), (3, .int p3), (4, .int p4), (5, .long p5)] := by cases r0 <;> rfl
  refine dn_mt (by decide +kernel) roI (by cases r0 <;> exact (Nat.le_of_ble_eq_true rfl)) ?_
  rw [hlv]
  refine dn_top ?_
  show jX12_write w x b 0 0 0 _ [] (dnB _ dnP)
  unfold fX12_write
  refine dn_aload_n (pc := 0) r0 0 dX12_write_0 rfl ?_
  refine dn_aload_n (pc := 1) r0 0 dX12_write_1 rfl ?_
  refine dn_getR (pc := 2) r0 lRX12_35 dX12_write_2 (fun v1 => ?_)
  refine dn_iload_n (pc := 5) 1 dX12_write_5 rfl ?_
  refine dn_iload_n (pc := 6) 2 dX12_write_6 rfl ?_
  refine dn_iload_n (pc := 7) 3 dX12_write_7 rfl ?_
  refine dn_iload (pc := 8) 4 dX12_write_8 rfl ?_
  refine dn_lload (pc := 10) 5 dX12_write_10 rfl ?_
  refine dn_callV0I (pc := 12) [.int p1, .int p2, .int p3, .int p4, .long p5] v1 kRX12_124 (mX6_writeCell w x b v1 p1 p2 p3 p4 p5) rfl rfl (Nat.le_of_ble_eq_true rfl) ⟨(Nat.le_of_ble_eq_true rfl), (Nat.le_of_ble_eq_true rfl)⟩ ⟨rfl, rfl, (Nat.le_of_ble_eq_true rfl), (Nat.le_of_ble_eq_true rfl)⟩ dX12_write_12 (fun v2 => ?_)
  refine dn_callV0I (pc := 15) [.int v2] r0 kRX12_91 (mX12_tally w x b r0 v2) rfl rfl (Nat.le_of_ble_eq_true rfl) ⟨(Nat.le_of_ble_eq_true rfl), (Nat.le_of_ble_eq_true rfl)⟩ ⟨rfl, rfl, (Nat.le_of_ble_eq_true rfl), (Nat.le_of_ble_eq_true rfl)⟩ dX12_write_15 (fun v3 => ?_)
  exact dn_ret (Nat.le_of_ble_eq_true rfl) (Nat.le_of_ble_eq_true rfl) rfl dX12_write_18
abbrev rmX13_held : Room := { frames := 0, cells := 0, slots := 0, locals := 0 }
def fX13_held (r0 : Option Nat) (p1 : Int32) (p2 : Int32) : dnM Int32 :=
  dnB (dnGR r0 11 5) fun v1 =>
  dnB (dnAI v1 100 ((6 * p1) + p2)) fun v2 =>
  dnP v2
abbrev jX13_held (w : dnWd) (x : dnX) (b : Nat) := dnD w x b (fun _ => True) cX13_held RX13 3 rmX13_held "held" eI
set_option maxHeartbeats 4000000 in
set_option maxRecDepth 100000 in
theorem mX13_held (w : dnWd) (x : dnX) (b : Nat) (r0 : Option Nat) (p1 : Int32) (p2 : Int32) : dnMt w x b yX13_held cX13_held 3 (some .int) rmX13_held eI [dnV b r0, .int p1, .int p2] (fX13_held r0 p1 p2) := by
  have hlv : lv_args 0 [dnV b r0, .int p1, .int p2] = [(0, dnV b r0), (1, .int p1), (2, .int p2)] := by cases r0 <;> rfl
  refine dn_mt (by decide +kernel) roI (by cases r0 <;> exact (Nat.le_of_ble_eq_true rfl)) ?_
  rw [hlv]
  refine dn_top ?_
  show jX13_held w x b 0 0 0 _ [] (dnB _ dnP)
  unfold fX13_held
  refine dn_aload_n (pc := 0) r0 0 dX13_held_0 rfl ?_
  refine dn_getR (pc := 1) r0 lRX13_20 dX13_held_1 (fun v1 => ?_)
  refine dn_bipush (pc := 4) (v := 6) dX13_held_4 rfl ?_
  refine dn_iload_n (pc := 6) 1 dX13_held_6 rfl ?_
  refine dn_imul (pc := 7) dX13_held_7 ?_
  refine dn_iload_n (pc := 8) 2 dX13_held_8 rfl ?_
  refine dn_iadd (pc := 9) dX13_held_9 ?_
  refine dn_iald (pc := 10) v1 dX13_held_10 (fun v2 => ?_)
  exact dn_ret (Nat.le_of_ble_eq_true rfl) (Nat.le_of_ble_eq_true rfl) rfl dX13_held_11
abbrev rmX13_holdsNow : Room := { frames := 0, cells := 0, slots := 0, locals := 0 }
def fX13_holdsNow (r0 : Option Nat) (p1 : Int32) (p2 : Int32) (p3 : Int32) : dnM Unit :=
  dnB (dnGR r0 11 5) fun v1 =>
  dnB (dnTI v1 100 ((6 * p1) + p2) p3) fun _ =>
  dnP ()
abbrev jX13_holdsNow (w : dnWd) (x : dnX) (b : Nat) := dnD w x b (fun _ => True) cX13_holdsNow RX13 4 rmX13_holdsNow "holdsNow" eU
set_option maxHeartbeats 4000000 in
set_option maxRecDepth 100000 in
theorem mX13_holdsNow (w : dnWd) (x : dnX) (b : Nat) (r0 : Option Nat) (p1 : Int32) (p2 : Int32) (p3 : Int32) : dnMt w x b yX13_holdsNow cX13_holdsNow 4 none rmX13_holdsNow eU [dnV b r0, .int p1, .int p2, .int p3] (fX13_holdsNow r0 p1 p2 p3) := by
  have hlv : lv_args 0 [dnV b r0, .int p1, .int p2, .int p3] = [(0, dnV b r0), (1, .int p1), (2, .int p2), (3, .int p3)] := by cases r0 <;> rfl
  refine dn_mt (by decide +kernel) roU (by cases r0 <;> exact (Nat.le_of_ble_eq_true rfl)) ?_
  rw [hlv]
  refine dn_top ?_
  show jX13_holdsNow w x b 0 0 0 _ [] (dnB _ dnP)
  unfold fX13_holdsNow
  refine dn_aload_n (pc := 0) r0 0 dX13_holdsNow_0 rfl ?_
  refine dn_getR (pc := 1) r0 lRX13_20 dX13_holdsNow_1 (fun v1 => ?_)
  refine dn_bipush (pc := 4) (v := 6) dX13_holdsNow_4 rfl ?_
  refine dn_iload_n (pc := 6) 1 dX13_holdsNow_6 rfl ?_
  refine dn_imul (pc := 7) dX13_holdsNow_7 ?_
  refine dn_iload_n (pc := 8) 2 dX13_holdsNow_8 rfl ?_
  refine dn_iadd (pc := 9) dX13_holdsNow_9 ?_
  refine dn_iload_n (pc := 10) 3 dX13_holdsNow_10 rfl ?_
  refine dn_iast (pc := 11) v1 dX13_holdsNow_11 ?_
  exact dn_ret (Nat.le_of_ble_eq_true rfl) (Nat.le_of_ble_eq_true rfl) rfl dX13_holdsNow_12
abbrev rmX13_in : Room := { frames := 0, cells := 0, slots := 0, locals := 0 }
def fX13_in (p0 : Int32) (p1 : Int32) (p2 : Int32) : dnM Bool :=
  if p0 < p1 then
  (dnP false)
  else
  (if p2 < p0 then
  (dnP false)
  else
  (dnP true))
abbrev jX13_in (w : dnWd) (x : dnX) (b : Nat) := dnD w x b (fun _ => True) cX13_in RX13 3 rmX13_in "in" eZ
set_option maxHeartbeats 4000000 in
set_option maxRecDepth 100000 in
theorem mX13_in (w : dnWd) (x : dnX) (b : Nat) (p0 : Int32) (p1 : Int32) (p2 : Int32) : dnMt w x b yX13_in cX13_in 3 (some .boolean) rmX13_in eZ [.int p0, .int p1, .int p2] (fX13_in p0 p1 p2) := by
  have hlv : lv_args 0 [.int p0, .int p1, .int p2] = [(0, .int p0), (1, .int p1), (2, .int p2)] := by rfl
  refine dn_mt (by decide +kernel) roZ (by exact (Nat.le_of_ble_eq_true rfl)) ?_
  rw [hlv]
  refine dn_top ?_
  show jX13_in w x b 0 0 0 _ [] (dnB _ dnP)
  unfold fX13_in
  refine dn_iload_n (pc := 0) 0 dX13_in_0 rfl ?_
  refine dn_iload_n (pc := 1) 1 dX13_in_1 rfl ?_
  refine dn_icmp_lt (pc := 2) 14 dX13_in_2 rfl (fun _ => ?_) (fun _ => ?_)
  · refine dn_iconst (pc := 14) (v := 0) dX13_in_14 rfl ?_
    exact dn_ret (Nat.le_of_ble_eq_true rfl) (Nat.le_of_ble_eq_true rfl) rfl dX13_in_15
  · refine dn_iload_n (pc := 5) 0 dX13_in_5 rfl ?_
    refine dn_iload_n (pc := 6) 2 dX13_in_6 rfl ?_
    refine dn_icmp_gt (pc := 7) 14 dX13_in_7 rfl (fun _ => ?_) (fun _ => ?_)
    · refine dn_iconst (pc := 14) (v := 0) dX13_in_14 rfl ?_
      exact dn_ret (Nat.le_of_ble_eq_true rfl) (Nat.le_of_ble_eq_true rfl) rfl dX13_in_15
    · refine dn_iconst (pc := 10) (v := 1) dX13_in_10 rfl ?_
      refine dn_goto (pc := 11) 15 dX13_in_11 rfl ?_
      exact dn_ret (Nat.le_of_ble_eq_true rfl) (Nat.le_of_ble_eq_true rfl) rfl dX13_in_15
abbrev rmX13_loads : Room := { frames := 0, cells := 0, slots := 0, locals := 0 }
def fX13_loads (r0 : Option Nat) (p1 : Int32) (p2 : Int32) : dnM Unit :=
  dnB (dnGR r0 11 9) fun v1 =>
  dnB (dnAI v1 100 ((12 * p1) + p2)) fun v2 =>
  dnB (dnPI r0 11 12 v2) fun _ =>
  dnB (dnGR r0 11 10) fun v3 =>
  dnB (dnAL v3 102 ((12 * p1) + p2)) fun v4 =>
  dnB (dnPL r0 11 13 v4) fun _ =>
  dnB (dnGR r0 11 11) fun v5 =>
  dnB (dnAD v5 103 ((12 * p1) + p2)) fun v6 =>
  dnB (dnPD r0 11 14 v6) fun _ =>
  dnP ()
abbrev jX13_loads (w : dnWd) (x : dnX) (b : Nat) := dnD w x b (fun _ => True) cX13_loads RX13 3 rmX13_loads "loads" eU
set_option maxHeartbeats 4000000 in
set_option maxRecDepth 100000 in
theorem mX13_loads (w : dnWd) (x : dnX) (b : Nat) (r0 : Option Nat) (p1 : Int32) (p2 : Int32) : dnMt w x b yX13_loads cX13_loads 3 none rmX13_loads eU [dnV b r0, .int p1, .int p2] (fX13_loads r0 p1 p2) := by
  have hlv : lv_args 0 [dnV b r0, .int p1, .int p2] = [(0, dnV b r0), (1, .int p1), (2, .int p2)] := by cases r0 <;> rfl
  refine dn_mt (by decide +kernel) roU (by cases r0 <;> exact (Nat.le_of_ble_eq_true rfl)) ?_
  rw [hlv]
  refine dn_top ?_
  show jX13_loads w x b 0 0 0 _ [] (dnB _ dnP)
  unfold fX13_loads
  refine dn_aload_n (pc := 0) r0 0 dX13_loads_0 rfl ?_
  refine dn_aload_n (pc := 1) r0 0 dX13_loads_1 rfl ?_
  refine dn_getR (pc := 2) r0 lRX13_32 dX13_loads_2 (fun v1 => ?_)
  refine dn_bipush (pc := 5) (v := 12) dX13_loads_5 rfl ?_
  refine dn_iload_n (pc := 7) 1 dX13_loads_7 rfl ?_
  refine dn_imul (pc := 8) dX13_loads_8 ?_
  refine dn_iload_n (pc := 9) 2 dX13_loads_9 rfl ?_
  refine dn_iadd (pc := 10) dX13_loads_10 ?_
  refine dn_iald (pc := 11) v1 dX13_loads_11 (fun v2 => ?_)
  refine dn_putI (pc := 12) r0 lRX13_190 dX13_loads_12 ?_
  refine dn_aload_n (pc := 15) r0 0 dX13_loads_15 rfl ?_
  refine dn_aload_n (pc := 16) r0 0 dX13_loads_16 rfl ?_
  refine dn_getR (pc := 17) r0 lRX13_35 dX13_loads_17 (fun v3 => ?_)
  refine dn_bipush (pc := 20) (v := 12) dX13_loads_20 rfl ?_
  refine dn_iload_n (pc := 22) 1 dX13_loads_22 rfl ?_
  refine dn_imul (pc := 23) dX13_loads_23 ?_
  refine dn_iload_n (pc := 24) 2 dX13_loads_24 rfl ?_
  refine dn_iadd (pc := 25) dX13_loads_25 ?_
  refine dn_lald (pc := 26) v3 dX13_loads_26 (fun v4 => ?_)
  refine dn_putL (pc := 27) r0 lRX13_197 dX13_loads_27 ?_
  refine dn_aload_n (pc := 30) r0 0 dX13_loads_30 rfl ?_
  refine dn_aload_n (pc := 31) r0 0 dX13_loads_31 rfl ?_
  refine dn_getR (pc := 32) r0 lRX13_39 dX13_loads_32 (fun v5 => ?_)
  refine dn_bipush (pc := 35) (v := 12) dX13_loads_35 rfl ?_
  refine dn_iload_n (pc := 37) 1 dX13_loads_37 rfl ?_
  refine dn_imul (pc := 38) dX13_loads_38 ?_
  refine dn_iload_n (pc := 39) 2 dX13_loads_39 rfl ?_
  refine dn_iadd (pc := 40) dX13_loads_40 ?_
  refine dn_dald (pc := 41) v5 dX13_loads_41 (fun v6 => ?_)
  refine dn_putD (pc := 42) r0 lRX13_193 dX13_loads_42 ?_
  exact dn_ret (Nat.le_of_ble_eq_true rfl) (Nat.le_of_ble_eq_true rfl) rfl dX13_loads_45
abbrev rmX13_makes : Room := { frames := 0, cells := 0, slots := 0, locals := 0 }
def fX13_makes_j169 (s0 : Option Nat) (s1 : Int64) : dnM Unit :=
  dnB (dnPL s0 11 13 s1) fun _ =>
  dnP ()
def fX13_makes (r0 : Option Nat) (p1 : Int32) (p2 : Int64) : dnM Unit :=
  dnB (dnPI r0 11 12 p1) fun _ =>
  dnB (dnPD r0 11 14 FP.dconst0) fun _ =>
  if p1 = 0 then
  (dnB (dnPL r0 11 13 (p2 &&& 1)) fun _ =>
  dnP ())
  else
  (if p1 = 1 then
  (dnB (dnPL r0 11 13 ((((((p2 : Int64).toInt32) : Int32).toInt8.toInt32) : Int32).toInt64)) fun _ =>
  dnP ())
  else
  (if p1 = 2 then
  (dnB (dnPL r0 11 13 (((((((p2 : Int64).toInt32) : Int32).toUInt32 % 65536).toInt32) : Int32).toInt64)) fun _ =>
  dnP ())
  else
  (if p1 = 3 then
  (dnB (dnPL r0 11 13 ((((((p2 : Int64).toInt32) : Int32).toInt16.toInt32) : Int32).toInt64)) fun _ =>
  dnP ())
  else
  (if p1 = 4 then
  (dnB (dnPL r0 11 13 ((((p2 : Int64).toInt32) : Int32).toInt64)) fun _ =>
  dnP ())
  else
  (if p1 = 5 then
  (dnB (dnPL r0 11 13 p2) fun _ =>
  dnP ())
  else
  (if p1 = 6 then
  (dnB (dnPL r0 11 13 0) fun _ =>
  dnB (dnN32 (FP.fdiv (FP.l2f p2) 1090519040)) fun v2 =>
  dnB (dnN64 (FP.f2d v2)) fun v3 =>
  dnB (dnPD r0 11 14 v3) fun _ =>
  dnP ())
  else
  (if p1 = 7 then
  (dnB (dnPL r0 11 13 0) fun _ =>
  dnB (dnN64 (FP.ddiv (FP.l2d p2) 4620693217682128896)) fun v1 =>
  dnB (dnPD r0 11 14 v1) fun _ =>
  dnP ())
  else
  (if ¬ p1 = 11 then
  (fX13_makes_j169 r0 (p2 &&& 3))
  else
  (fX13_makes_j169 r0 0)))))))))
abbrev jX13_makes (w : dnWd) (x : dnX) (b : Nat) := dnD w x b (fun _ => True) cX13_makes RX13 4 rmX13_makes "makes" eU
set_option maxHeartbeats 4000000 in
set_option maxRecDepth 100000 in
theorem mX13_makes (w : dnWd) (x : dnX) (b : Nat) (r0 : Option Nat) (p1 : Int32) (p2 : Int64) : dnMt w x b yX13_makes cX13_makes 4 none rmX13_makes eU [dnV b r0, .int p1, .long p2] (fX13_makes r0 p1 p2) := by
  have hlv : lv_args 0 [dnV b r0, .int p1, .long p2] = [(0, dnV b r0), (1, .int p1), (2, .long p2)] := by cases r0 <;> rfl
  refine dn_mt (by decide +kernel) roU (by cases r0 <;> exact (Nat.le_of_ble_eq_true rfl)) ?_
  rw [hlv]
  refine dn_top ?_
  show jX13_makes w x b 0 0 0 _ [] (dnB _ dnP)
  unfold fX13_makes
  have hj169 : ∀ (s0 : Option Nat) (s1 : Int64), jX13_makes w x b 169 0 0 [] [.long s1, dnV b s0] (dnB (fX13_makes_j169 s0 s1) dnP) := by
    intro s0 s1
    unfold fX13_makes_j169
    refine dn_putL (pc := 169) s0 lRX13_197 dX13_makes_169 ?_
    exact dn_ret (Nat.le_of_ble_eq_true rfl) (Nat.le_of_ble_eq_true rfl) rfl dX13_makes_172
  refine dn_aload_n (pc := 0) r0 0 dX13_makes_0 rfl ?_
  refine dn_iload_n (pc := 1) 1 dX13_makes_1 rfl ?_
  refine dn_putI (pc := 2) r0 lRX13_190 dX13_makes_2 ?_
  refine dn_aload_n (pc := 5) r0 0 dX13_makes_5 rfl ?_
  refine dn_dconst0 (pc := 6) dX13_makes_6 ?_
  refine dn_putD (pc := 7) r0 lRX13_193 dX13_makes_7 ?_
  refine dn_iload_n (pc := 10) 1 dX13_makes_10 rfl ?_
  refine dn_tcase (pc := 11) 0 56 dX13_makes_11 (by decide) (by decide) rfl rfl (fun _ => ?_) (fun n11_0 => ?_)
  · refine dn_aload_n (pc := 56) r0 0 dX13_makes_56 rfl ?_
    refine dn_lload_n (pc := 57) 2 dX13_makes_57 rfl ?_
    refine dn_lconst (pc := 58) (v := 1) dX13_makes_58 rfl ?_
    refine dn_land (pc := 59) dX13_makes_59 ?_
    refine dn_putL (pc := 60) r0 lRX13_197 dX13_makes_60 ?_
    refine dn_goto (pc := 63) 172 dX13_makes_63 rfl ?_
    exact dn_ret (Nat.le_of_ble_eq_true rfl) (Nat.le_of_ble_eq_true rfl) rfl dX13_makes_172
  · refine dn_tcase (pc := 11) 1 66 dX13_makes_11 (by decide) (by decide) rfl rfl (fun _ => ?_) (fun n11_1 => ?_)
    · refine dn_aload_n (pc := 66) r0 0 dX13_makes_66 rfl ?_
      refine dn_lload_n (pc := 67) 2 dX13_makes_67 rfl ?_
      refine dn_l2i (pc := 68) dX13_makes_68 ?_
      refine dn_i2b (pc := 69) dX13_makes_69 ?_
      refine dn_i2l (pc := 70) dX13_makes_70 ?_
      refine dn_putL (pc := 71) r0 lRX13_197 dX13_makes_71 ?_
      refine dn_goto (pc := 74) 172 dX13_makes_74 rfl ?_
      exact dn_ret (Nat.le_of_ble_eq_true rfl) (Nat.le_of_ble_eq_true rfl) rfl dX13_makes_172
    · refine dn_tcase (pc := 11) 2 77 dX13_makes_11 (by decide) (by decide) rfl rfl (fun _ => ?_) (fun n11_2 => ?_)
      · refine dn_aload_n (pc := 77) r0 0 dX13_makes_77 rfl ?_
        refine dn_lload_n (pc := 78) 2 dX13_makes_78 rfl ?_
        refine dn_l2i (pc := 79) dX13_makes_79 ?_
        refine dn_i2c (pc := 80) dX13_makes_80 ?_
        refine dn_i2l (pc := 81) dX13_makes_81 ?_
        refine dn_putL (pc := 82) r0 lRX13_197 dX13_makes_82 ?_
        refine dn_goto (pc := 85) 172 dX13_makes_85 rfl ?_
        exact dn_ret (Nat.le_of_ble_eq_true rfl) (Nat.le_of_ble_eq_true rfl) rfl dX13_makes_172
      · refine dn_tcase (pc := 11) 3 88 dX13_makes_11 (by decide) (by decide) rfl rfl (fun _ => ?_) (fun n11_3 => ?_)
        · refine dn_aload_n (pc := 88) r0 0 dX13_makes_88 rfl ?_
          refine dn_lload_n (pc := 89) 2 dX13_makes_89 rfl ?_
          refine dn_l2i (pc := 90) dX13_makes_90 ?_
          refine dn_i2s (pc := 91) dX13_makes_91 ?_
          refine dn_i2l (pc := 92) dX13_makes_92 ?_
          refine dn_putL (pc := 93) r0 lRX13_197 dX13_makes_93 ?_
          refine dn_goto (pc := 96) 172 dX13_makes_96 rfl ?_
          exact dn_ret (Nat.le_of_ble_eq_true rfl) (Nat.le_of_ble_eq_true rfl) rfl dX13_makes_172
        · refine dn_tcase (pc := 11) 4 99 dX13_makes_11 (by decide) (by decide) rfl rfl (fun _ => ?_) (fun n11_4 => ?_)
          · refine dn_aload_n (pc := 99) r0 0 dX13_makes_99 rfl ?_
            refine dn_lload_n (pc := 100) 2 dX13_makes_100 rfl ?_
            refine dn_l2i (pc := 101) dX13_makes_101 ?_
            refine dn_i2l (pc := 102) dX13_makes_102 ?_
            refine dn_putL (pc := 103) r0 lRX13_197 dX13_makes_103 ?_
            refine dn_goto (pc := 106) 172 dX13_makes_106 rfl ?_
            exact dn_ret (Nat.le_of_ble_eq_true rfl) (Nat.le_of_ble_eq_true rfl) rfl dX13_makes_172
          · refine dn_tcase (pc := 11) 5 109 dX13_makes_11 (by decide) (by decide) rfl rfl (fun _ => ?_) (fun n11_5 => ?_)
            · refine dn_aload_n (pc := 109) r0 0 dX13_makes_109 rfl ?_
              refine dn_lload_n (pc := 110) 2 dX13_makes_110 rfl ?_
              refine dn_putL (pc := 111) r0 lRX13_197 dX13_makes_111 ?_
              refine dn_goto (pc := 114) 172 dX13_makes_114 rfl ?_
              exact dn_ret (Nat.le_of_ble_eq_true rfl) (Nat.le_of_ble_eq_true rfl) rfl dX13_makes_172
            · refine dn_tcase (pc := 11) 6 117 dX13_makes_11 (by decide) (by decide) rfl rfl (fun _ => ?_) (fun n11_6 => ?_)
              · refine dn_aload_n (pc := 117) r0 0 dX13_makes_117 rfl ?_
                refine dn_lconst (pc := 118) (v := 0) dX13_makes_118 rfl ?_
                refine dn_putL (pc := 119) r0 lRX13_197 dX13_makes_119 ?_
                refine dn_aload_n (pc := 122) r0 0 dX13_makes_122 rfl ?_
                refine dn_lload_n (pc := 123) 2 dX13_makes_123 rfl ?_
                refine dn_l2f (pc := 124) dX13_makes_124 ?_
                refine dn_ldcf (pc := 125) kRX13_200 dX13_makes_125 ?_
                refine dn_fdiv (pc := 127) dX13_makes_127 (fun v2 => ?_)
                refine dn_f2d (pc := 128) dX13_makes_128 (fun v3 => ?_)
                refine dn_putD (pc := 129) r0 lRX13_193 dX13_makes_129 ?_
                refine dn_goto (pc := 132) 172 dX13_makes_132 rfl ?_
                exact dn_ret (Nat.le_of_ble_eq_true rfl) (Nat.le_of_ble_eq_true rfl) rfl dX13_makes_172
              · refine dn_tcase (pc := 11) 7 135 dX13_makes_11 (by decide) (by decide) rfl rfl (fun _ => ?_) (fun n11_7 => ?_)
                · refine dn_aload_n (pc := 135) r0 0 dX13_makes_135 rfl ?_
                  refine dn_lconst (pc := 136) (v := 0) dX13_makes_136 rfl ?_
                  refine dn_putL (pc := 137) r0 lRX13_197 dX13_makes_137 ?_
                  refine dn_aload_n (pc := 140) r0 0 dX13_makes_140 rfl ?_
                  refine dn_lload_n (pc := 141) 2 dX13_makes_141 rfl ?_
                  refine dn_l2d (pc := 142) dX13_makes_142 ?_
                  refine dn_ldc2d (pc := 143) kRX13_201 dX13_makes_143 ?_
                  refine dn_ddiv (pc := 146) dX13_makes_146 (fun v1 => ?_)
                  refine dn_putD (pc := 147) r0 lRX13_193 dX13_makes_147 ?_
                  refine dn_goto (pc := 150) 172 dX13_makes_150 rfl ?_
                  exact dn_ret (Nat.le_of_ble_eq_true rfl) (Nat.le_of_ble_eq_true rfl) rfl dX13_makes_172
                · refine dn_tout (pc := 11) [0, 1, 2, 3, 4, 5, 6, 7] 153 dX13_makes_11 (List.forall_mem_cons.mpr ⟨n11_0, (List.forall_mem_cons.mpr ⟨n11_1, (List.forall_mem_cons.mpr ⟨n11_2, (List.forall_mem_cons.mpr ⟨n11_3, (List.forall_mem_cons.mpr ⟨n11_4, (List.forall_mem_cons.mpr ⟨n11_5, (List.forall_mem_cons.mpr ⟨n11_6, (List.forall_mem_cons.mpr ⟨n11_7, (fun _ h => absurd h List.not_mem_nil)⟩)⟩)⟩)⟩)⟩)⟩)⟩)⟩) (by decide) rfl ?_
                  refine dn_aload_n (pc := 153) r0 0 dX13_makes_153 rfl ?_
                  refine dn_iload_n (pc := 154) 1 dX13_makes_154 rfl ?_
                  refine dn_bipush (pc := 155) (v := 11) dX13_makes_155 rfl ?_
                  refine dn_icmp_ne (pc := 157) 164 dX13_makes_157 rfl (fun _ => ?_) (fun _ => ?_)
                  · refine dn_lload_n (pc := 164) 2 dX13_makes_164 rfl ?_
                    refine dn_ldc2 (pc := 165) kRX13_203 dX13_makes_165 ?_
                    refine dn_land (pc := 168) dX13_makes_168 ?_
                    exact dn_lv [] rfl (hj169 r0 (p2 &&& 3))
                  · refine dn_lconst (pc := 160) (v := 0) dX13_makes_160 rfl ?_
                    refine dn_goto (pc := 161) 169 dX13_makes_161 rfl ?_
                    exact dn_lv [] rfl (hj169 r0 0)
abbrev rmX13_widens : Room := { frames := 0, cells := 0, slots := 0, locals := 0 }
def fX13_widens_j62 (l0 : Option Nat) (l1 : Int32) : dnM Unit :=
  dnB (dnPI l0 11 12 l1) fun _ =>
  dnP ()
def fX13_widens_j33 (l0 : Option Nat) (l1 : Int32) : dnM Unit :=
  if ¬ l1 = 7 then
  (fX13_widens_j62 l0 l1)
  else
  (dnB (dnGI l0 11 12) fun v1 =>
  if 6 ≤ v1 then
  (fX13_widens_j62 l0 l1)
  else
  (dnB (dnGL l0 11 13) fun v2 =>
  dnB (dnPD l0 11 14 (FP.l2d v2)) fun _ =>
  dnB (dnPL l0 11 13 0) fun _ =>
  fX13_widens_j62 l0 l1))
def fX13_widens (r0 : Option Nat) (p1 : Int32) : dnM Unit :=
  if ¬ p1 = 6 then
  (fX13_widens_j33 r0 p1)
  else
  (dnB (dnGI r0 11 12) fun v3 =>
  if 6 ≤ v3 then
  (fX13_widens_j33 r0 p1)
  else
  (dnB (dnGL r0 11 13) fun v4 =>
  dnB (dnN64 (FP.f2d (FP.l2f v4))) fun v5 =>
  dnB (dnPD r0 11 14 v5) fun _ =>
  dnB (dnPL r0 11 13 0) fun _ =>
  fX13_widens_j62 r0 p1))
abbrev jX13_widens (w : dnWd) (x : dnX) (b : Nat) := dnD w x b (fun _ => True) cX13_widens RX13 2 rmX13_widens "widens" eU
set_option maxHeartbeats 4000000 in
set_option maxRecDepth 100000 in
theorem mX13_widens (w : dnWd) (x : dnX) (b : Nat) (r0 : Option Nat) (p1 : Int32) : dnMt w x b yX13_widens cX13_widens 2 none rmX13_widens eU [dnV b r0, .int p1] (fX13_widens r0 p1) := by
  have hlv : lv_args 0 [dnV b r0, .int p1] = [(0, dnV b r0), (1, .int p1)] := by cases r0 <;> rfl
  refine dn_mt (by decide +kernel) roU (by cases r0 <;> exact (Nat.le_of_ble_eq_true rfl)) ?_
  rw [hlv]
  refine dn_top ?_
  show jX13_widens w x b 0 0 0 _ [] (dnB _ dnP)
  unfold fX13_widens
  have hj62 : ∀ (l0 : Option Nat) (l1 : Int32), jX13_widens w x b 62 0 0 [(0, dnV b l0), (1, .int l1)] [] (dnB (fX13_widens_j62 l0 l1) dnP) := by
    intro l0 l1
    unfold fX13_widens_j62
    refine dn_aload_n (pc := 62) l0 0 dX13_widens_62 rfl ?_
    refine dn_iload_n (pc := 63) 1 dX13_widens_63 rfl ?_
    refine dn_putI (pc := 64) l0 lRX13_190 dX13_widens_64 ?_
    exact dn_ret (Nat.le_of_ble_eq_true rfl) (Nat.le_of_ble_eq_true rfl) rfl dX13_widens_67
  have hj33 : ∀ (l0 : Option Nat) (l1 : Int32), jX13_widens w x b 33 0 0 [(0, dnV b l0), (1, .int l1)] [] (dnB (fX13_widens_j33 l0 l1) dnP) := by
    intro l0 l1
    unfold fX13_widens_j33
    refine dn_iload_n (pc := 33) 1 dX13_widens_33 rfl ?_
    refine dn_bipush (pc := 34) (v := 7) dX13_widens_34 rfl ?_
    refine dn_icmp_ne (pc := 36) 62 dX13_widens_36 rfl (fun _ => ?_) (fun _ => ?_)
    · exact dn_lv [0, 1] rfl (hj62 l0 l1)
    · refine dn_aload_n (pc := 39) l0 0 dX13_widens_39 rfl ?_
      refine dn_getI (pc := 40) l0 lRX13_190 dX13_widens_40 (fun v1 => ?_)
      refine dn_bipush (pc := 43) (v := 6) dX13_widens_43 rfl ?_
      refine dn_icmp_ge (pc := 45) 62 dX13_widens_45 rfl (fun _ => ?_) (fun _ => ?_)
      · exact dn_lv [0, 1] rfl (hj62 l0 l1)
      · refine dn_aload_n (pc := 48) l0 0 dX13_widens_48 rfl ?_
        refine dn_aload_n (pc := 49) l0 0 dX13_widens_49 rfl ?_
        refine dn_getL (pc := 50) l0 lRX13_197 dX13_widens_50 (fun v2 => ?_)
        refine dn_l2d (pc := 53) dX13_widens_53 ?_
        refine dn_putD (pc := 54) l0 lRX13_193 dX13_widens_54 ?_
        refine dn_aload_n (pc := 57) l0 0 dX13_widens_57 rfl ?_
        refine dn_lconst (pc := 58) (v := 0) dX13_widens_58 rfl ?_
        refine dn_putL (pc := 59) l0 lRX13_197 dX13_widens_59 ?_
        exact dn_lv [0, 1] rfl (hj62 l0 l1)
  refine dn_iload_n (pc := 0) 1 dX13_widens_0 rfl ?_
  refine dn_bipush (pc := 1) (v := 6) dX13_widens_1 rfl ?_
  refine dn_icmp_ne (pc := 3) 33 dX13_widens_3 rfl (fun _ => ?_) (fun _ => ?_)
  · exact dn_lv [0, 1] rfl (hj33 r0 p1)
  · refine dn_aload_n (pc := 6) r0 0 dX13_widens_6 rfl ?_
    refine dn_getI (pc := 7) r0 lRX13_190 dX13_widens_7 (fun v3 => ?_)
    refine dn_bipush (pc := 10) (v := 6) dX13_widens_10 rfl ?_
    refine dn_icmp_ge (pc := 12) 33 dX13_widens_12 rfl (fun _ => ?_) (fun _ => ?_)
    · exact dn_lv [0, 1] rfl (hj33 r0 p1)
    · refine dn_aload_n (pc := 15) r0 0 dX13_widens_15 rfl ?_
      refine dn_aload_n (pc := 16) r0 0 dX13_widens_16 rfl ?_
      refine dn_getL (pc := 17) r0 lRX13_197 dX13_widens_17 (fun v4 => ?_)
      refine dn_l2f (pc := 20) dX13_widens_20 ?_
      refine dn_f2d (pc := 21) dX13_widens_21 (fun v5 => ?_)
      refine dn_putD (pc := 22) r0 lRX13_193 dX13_widens_22 ?_
      refine dn_aload_n (pc := 25) r0 0 dX13_widens_25 rfl ?_
      refine dn_lconst (pc := 26) (v := 0) dX13_widens_26 rfl ?_
      refine dn_putL (pc := 27) r0 lRX13_197 dX13_widens_27 ?_
      refine dn_goto (pc := 30) 62 dX13_widens_30 rfl ?_
      exact dn_lv [0, 1] rfl (hj62 r0 p1)
abbrev rmX13_isAbove : Room := { frames := 1, cells := 0, slots := 0, locals := 23 }
def fX13_isAbove_j50 : dnM Bool :=
  dnP true
def fX13_isAbove (r0 : Option Nat) (p1 : Int32) (p2 : Int32) (p3 : Int32) (p4 : Int64) : dnM Bool :=
  dnB (dnCv r0 11 (fX13_makes r0 p3 p4)) fun _ =>
  dnB (dnGL r0 11 13) fun v2 =>
  dnB (dnGD r0 11 14) fun v3 =>
  dnB (dnCv r0 11 (fX13_loads r0 p1 p2)) fun _ =>
  dnB (dnCv r0 11 (fX13_widens r0 p3)) fun _ =>
  dnB (dnGL r0 11 13) fun v6 =>
  if 0 < (lg_cmp v6 v2) then
  (fX13_isAbove_j50)
  else
  (dnB (dnGD r0 11 14) fun v7 =>
  if (Op.cmpValue (FP.dcmp v7 v3) .l) ≤ 0 then
  (dnP false)
  else
  (fX13_isAbove_j50))
abbrev jX13_isAbove (w : dnWd) (x : dnX) (b : Nat) := dnD w x b (fun _ => True) cX13_isAbove RX13 10 rmX13_isAbove "isAbove" eZ
set_option maxHeartbeats 4000000 in
set_option maxRecDepth 100000 in
theorem mX13_isAbove (w : dnWd) (x : dnX) (b : Nat) (r0 : Option Nat) (p1 : Int32) (p2 : Int32) (p3 : Int32) (p4 : Int64) : dnMt w x b yX13_isAbove cX13_isAbove 10 (some .boolean) rmX13_isAbove eZ [dnV b r0, .int p1, .int p2, .int p3, .long p4] (fX13_isAbove r0 p1 p2 p3 p4) := by
  have hlv : lv_args 0 [dnV b r0, .int p1, .int p2, .int p3, .long p4] = [(0, dnV b r0), (1, .int p1), (2, .int p2), (3, .int p3), (4, .long p4)] := by cases r0 <;> rfl
  refine dn_mt (by decide +kernel) roZ (by cases r0 <;> exact (Nat.le_of_ble_eq_true rfl)) ?_
  rw [hlv]
  refine dn_top ?_
  show jX13_isAbove w x b 0 0 0 _ [] (dnB _ dnP)
  unfold fX13_isAbove
  have hj50 : jX13_isAbove w x b 50 0 0 [] [] (dnB (fX13_isAbove_j50) dnP) := by
    unfold fX13_isAbove_j50
    refine dn_iconst (pc := 50) (v := 1) dX13_isAbove_50 rfl ?_
    refine dn_goto (pc := 51) 55 dX13_isAbove_51 rfl ?_
    exact dn_ret (Nat.le_of_ble_eq_true rfl) (Nat.le_of_ble_eq_true rfl) rfl dX13_isAbove_55
  refine dn_aload_n (pc := 0) r0 0 dX13_isAbove_0 rfl ?_
  refine dn_iload_n (pc := 1) 3 dX13_isAbove_1 rfl ?_
  refine dn_lload (pc := 2) 4 dX13_isAbove_2 rfl ?_
  refine dn_callV0U (pc := 4) [.int p3, .long p4] r0 kRX13_250 (mX13_makes w x b r0 p3 p4) rfl rfl (Nat.le_of_ble_eq_true rfl) ⟨(Nat.le_of_ble_eq_true rfl), (Nat.le_of_ble_eq_true rfl)⟩ ⟨rfl, rfl, (Nat.le_of_ble_eq_true rfl), (Nat.le_of_ble_eq_true rfl)⟩ dX13_isAbove_4 (fun _ => ?_)
  refine dn_aload_n (pc := 7) r0 0 dX13_isAbove_7 rfl ?_
  refine dn_getL (pc := 8) r0 lRX13_197 dX13_isAbove_8 (fun v2 => ?_)
  refine dn_lstore (pc := 11) dX13_isAbove_11 (Nat.le_of_ble_eq_true rfl) (dnKp_of (lv2 := [(0, dnV b r0), (1, .int p1), (2, .int p2), (3, .int p3)]) [0, 1, 2, 3] rfl rfl) ?_
  refine dn_aload_n (pc := 13) r0 1 dX13_isAbove_13 rfl ?_
  refine dn_getD (pc := 14) r0 lRX13_193 dX13_isAbove_14 (fun v3 => ?_)
  refine dn_dstore (pc := 17) dX13_isAbove_17 (Nat.le_of_ble_eq_true rfl) (dnKp_of (lv2 := [(6, .long v2), (0, dnV b r0), (1, .int p1), (2, .int p2), (3, .int p3)]) [0, 1, 2, 3, 4] rfl rfl) ?_
  refine dn_aload_n (pc := 19) r0 2 dX13_isAbove_19 rfl ?_
  refine dn_iload_n (pc := 20) 3 dX13_isAbove_20 rfl ?_
  refine dn_iload_n (pc := 21) 4 dX13_isAbove_21 rfl ?_
  refine dn_callV0U (pc := 22) [.int p1, .int p2] r0 kRX13_236 (mX13_loads w x b r0 p1 p2) rfl rfl (Nat.le_of_ble_eq_true rfl) ⟨(Nat.le_of_ble_eq_true rfl), (Nat.le_of_ble_eq_true rfl)⟩ ⟨rfl, rfl, (Nat.le_of_ble_eq_true rfl), (Nat.le_of_ble_eq_true rfl)⟩ dX13_isAbove_22 (fun _ => ?_)
  refine dn_aload_n (pc := 25) r0 2 dX13_isAbove_25 rfl ?_
  refine dn_iload_n (pc := 26) 5 dX13_isAbove_26 rfl ?_
  refine dn_callV0U (pc := 27) [.int p3] r0 kRX13_212 (mX13_widens w x b r0 p3) rfl rfl (Nat.le_of_ble_eq_true rfl) ⟨(Nat.le_of_ble_eq_true rfl), (Nat.le_of_ble_eq_true rfl)⟩ ⟨rfl, rfl, (Nat.le_of_ble_eq_true rfl), (Nat.le_of_ble_eq_true rfl)⟩ dX13_isAbove_27 (fun _ => ?_)
  refine dn_aload_n (pc := 30) r0 2 dX13_isAbove_30 rfl ?_
  refine dn_getL (pc := 31) r0 lRX13_197 dX13_isAbove_31 (fun v6 => ?_)
  refine dn_lload (pc := 34) 1 dX13_isAbove_34 rfl ?_
  refine dn_lcmp (pc := 36) dX13_isAbove_36 ?_
  refine dn_if_gt (pc := 37) 50 dX13_isAbove_37 rfl (fun _ => ?_) (fun _ => ?_)
  · exact dn_lv [] rfl (hj50)
  · refine dn_aload_n (pc := 40) r0 2 dX13_isAbove_40 rfl ?_
    refine dn_getD (pc := 41) r0 lRX13_193 dX13_isAbove_41 (fun v7 => ?_)
    refine dn_dload (pc := 44) 0 dX13_isAbove_44 rfl ?_
    refine dn_dcmp (pc := 46) dX13_isAbove_46 ?_
    refine dn_if_le (pc := 47) 54 dX13_isAbove_47 rfl (fun _ => ?_) (fun _ => ?_)
    · refine dn_iconst (pc := 54) (v := 0) dX13_isAbove_54 rfl ?_
      exact dn_ret (Nat.le_of_ble_eq_true rfl) (Nat.le_of_ble_eq_true rfl) rfl dX13_isAbove_55
    · exact dn_lv [] rfl (hj50)
abbrev rmX13_isGrid : Room := { frames := 1, cells := 0, slots := 0, locals := 22 }
def fX13_isGrid (p0 : Int32) : dnM Bool :=
  dnB (fX13_in p0 0 3) fun v1 =>
  dnP v1
abbrev jX13_isGrid (w : dnWd) (x : dnX) (b : Nat) := dnD w x b (fun _ => True) cX13_isGrid RX13 1 rmX13_isGrid "isGrid" eZ
set_option maxHeartbeats 4000000 in
set_option maxRecDepth 100000 in
theorem mX13_isGrid (w : dnWd) (x : dnX) (b : Nat) (p0 : Int32) : dnMt w x b yX13_isGrid cX13_isGrid 1 (some .boolean) rmX13_isGrid eZ [.int p0] (fX13_isGrid p0) := by
  have hlv : lv_args 0 [.int p0] = [(0, .int p0)] := by rfl
  refine dn_mt (by decide +kernel) roZ (by exact (Nat.le_of_ble_eq_true rfl)) ?_
  rw [hlv]
  refine dn_top ?_
  show jX13_isGrid w x b 0 0 0 _ [] (dnB _ dnP)
  unfold fX13_isGrid
  refine dn_iload_n (pc := 0) 0 dX13_isGrid_0 rfl ?_
  refine dn_iconst (pc := 1) (v := 0) dX13_isGrid_1 rfl ?_
  refine dn_iconst (pc := 2) (v := 3) dX13_isGrid_2 rfl ?_
  refine dn_callS0Z (pc := 3) [.int p0, .int 0, .int 3]  kRX13_109 (mX13_in w x b p0 0 3) rfl rfl (Nat.le_of_ble_eq_true rfl) ⟨(Nat.le_of_ble_eq_true rfl), (Nat.le_of_ble_eq_true rfl)⟩ ⟨rfl, rfl, (Nat.le_of_ble_eq_true rfl), (Nat.le_of_ble_eq_true rfl)⟩ dX13_isGrid_3 (fun v1 => ?_)
  exact dn_ret (Nat.le_of_ble_eq_true rfl) (Nat.le_of_ble_eq_true rfl) rfl dX13_isGrid_6
abbrev rmX13_isPlain : Room := { frames := 1, cells := 0, slots := 0, locals := 22 }
def fX13_isPlain (p0 : Int32) : dnM Bool :=
  dnB (fX13_in p0 0 7) fun v1 =>
  dnP v1
abbrev jX13_isPlain (w : dnWd) (x : dnX) (b : Nat) := dnD w x b (fun _ => True) cX13_isPlain RX13 1 rmX13_isPlain "isPlain" eZ
set_option maxHeartbeats 4000000 in
set_option maxRecDepth 100000 in
theorem mX13_isPlain (w : dnWd) (x : dnX) (b : Nat) (p0 : Int32) : dnMt w x b yX13_isPlain cX13_isPlain 1 (some .boolean) rmX13_isPlain eZ [.int p0] (fX13_isPlain p0) := by
  have hlv : lv_args 0 [.int p0] = [(0, .int p0)] := by rfl
  refine dn_mt (by decide +kernel) roZ (by exact (Nat.le_of_ble_eq_true rfl)) ?_
  rw [hlv]
  refine dn_top ?_
  show jX13_isPlain w x b 0 0 0 _ [] (dnB _ dnP)
  unfold fX13_isPlain
  refine dn_iload_n (pc := 0) 0 dX13_isPlain_0 rfl ?_
  refine dn_iconst (pc := 1) (v := 0) dX13_isPlain_1 rfl ?_
  refine dn_bipush (pc := 2) (v := 7) dX13_isPlain_2 rfl ?_
  refine dn_callS0Z (pc := 4) [.int p0, .int 0, .int 7]  kRX13_109 (mX13_in w x b p0 0 7) rfl rfl (Nat.le_of_ble_eq_true rfl) ⟨(Nat.le_of_ble_eq_true rfl), (Nat.le_of_ble_eq_true rfl)⟩ ⟨rfl, rfl, (Nat.le_of_ble_eq_true rfl), (Nat.le_of_ble_eq_true rfl)⟩ dX13_isPlain_4 (fun v1 => ?_)
  exact dn_ret (Nat.le_of_ble_eq_true rfl) (Nat.le_of_ble_eq_true rfl) rfl dX13_isPlain_7
abbrev rmX13_takes : Room := { frames := 1, cells := 0, slots := 0, locals := 22 }
def fX13_takes_j170 : dnM Bool :=
  dnP true
def fX13_takes_j152 : dnM Bool :=
  dnP true
def fX13_takes_j128 : dnM Bool :=
  dnP true
def fX13_takes_j108 (l0 : Int32) (l1 : Int32) : dnM Bool :=
  dnB (fX13_in l1 1 l0) fun v1 =>
  dnP v1
def fX13_takes_j102 : dnM Bool :=
  dnP true
def fX13_takes (p0 : Int32) (p1 : Int32) : dnM Bool :=
  if p0 = 0 then
  (if ¬ p1 = 0 then
  (dnP false)
  else
  (dnP true))
  else
  (if p0 = 1 then
  (if ¬ p1 = 1 then
  (dnP false)
  else
  (dnP true))
  else
  (if p0 = 2 then
  (if ¬ p1 = 2 then
  (dnP false)
  else
  (dnP true))
  else
  (if p0 = 3 then
  (if p1 = 1 then
  (fX13_takes_j102)
  else
  (if ¬ p1 = 3 then
  (dnP false)
  else
  (fX13_takes_j102)))
  else
  (if p0 = 4 then
  (fX13_takes_j108 p0 p1)
  else
  (if p0 = 5 then
  (fX13_takes_j108 p0 p1)
  else
  (if p0 = 6 then
  (fX13_takes_j108 p0 p1)
  else
  (if p0 = 7 then
  (fX13_takes_j108 p0 p1)
  else
  (if p0 = 8 then
  (dnP true)
  else
  (if p0 = 9 then
  (if p1 = 4 then
  (fX13_takes_j128)
  else
  (if ¬ p1 = 11 then
  (dnP false)
  else
  (fX13_takes_j128)))
  else
  (if p0 = 10 then
  (if p1 = 8 then
  (fX13_takes_j152)
  else
  (if p1 = 9 then
  (fX13_takes_j152)
  else
  (if ¬ p1 = 11 then
  (dnP false)
  else
  (fX13_takes_j152))))
  else
  (if p1 = 10 then
  (fX13_takes_j170)
  else
  (if ¬ p1 = 11 then
  (dnP false)
  else
  (fX13_takes_j170)))))))))))))
abbrev jX13_takes (w : dnWd) (x : dnX) (b : Nat) := dnD w x b (fun _ => True) cX13_takes RX13 2 rmX13_takes "takes" eZ
set_option maxHeartbeats 4000000 in
set_option maxRecDepth 100000 in
theorem mX13_takes (w : dnWd) (x : dnX) (b : Nat) (p0 : Int32) (p1 : Int32) : dnMt w x b yX13_takes cX13_takes 2 (some .boolean) rmX13_takes eZ [.int p0, .int p1] (fX13_takes p0 p1) := by
  have hlv : lv_args 0 [.int p0, .int p1] = [(0, .int p0), (1, .int p1)] := by rfl
  refine dn_mt (by decide +kernel) roZ (by exact (Nat.le_of_ble_eq_true rfl)) ?_
  rw [hlv]
  refine dn_top ?_
  show jX13_takes w x b 0 0 0 _ [] (dnB _ dnP)
  unfold fX13_takes
  have hj170 : jX13_takes w x b 170 0 0 [] [] (dnB (fX13_takes_j170) dnP) := by
    unfold fX13_takes_j170
    refine dn_iconst (pc := 170) (v := 1) dX13_takes_170 rfl ?_
    refine dn_goto (pc := 171) 175 dX13_takes_171 rfl ?_
    exact dn_ret (Nat.le_of_ble_eq_true rfl) (Nat.le_of_ble_eq_true rfl) rfl dX13_takes_175
  have hj152 : jX13_takes w x b 152 0 0 [] [] (dnB (fX13_takes_j152) dnP) := by
    unfold fX13_takes_j152
    refine dn_iconst (pc := 152) (v := 1) dX13_takes_152 rfl ?_
    refine dn_goto (pc := 153) 157 dX13_takes_153 rfl ?_
    exact dn_ret (Nat.le_of_ble_eq_true rfl) (Nat.le_of_ble_eq_true rfl) rfl dX13_takes_157
  have hj128 : jX13_takes w x b 128 0 0 [] [] (dnB (fX13_takes_j128) dnP) := by
    unfold fX13_takes_j128
    refine dn_iconst (pc := 128) (v := 1) dX13_takes_128 rfl ?_
    refine dn_goto (pc := 129) 133 dX13_takes_129 rfl ?_
    exact dn_ret (Nat.le_of_ble_eq_true rfl) (Nat.le_of_ble_eq_true rfl) rfl dX13_takes_133
  have hj108 : ∀ (l0 : Int32) (l1 : Int32), jX13_takes w x b 108 0 0 [(0, .int l0), (1, .int l1)] [] (dnB (fX13_takes_j108 l0 l1) dnP) := by
    intro l0 l1
    unfold fX13_takes_j108
    refine dn_iload_n (pc := 108) 1 dX13_takes_108 rfl ?_
    refine dn_iconst (pc := 109) (v := 1) dX13_takes_109 rfl ?_
    refine dn_iload_n (pc := 110) 0 dX13_takes_110 rfl ?_
    refine dn_callS0Z (pc := 111) [.int l1, .int 1, .int l0]  kRX13_109 (mX13_in w x b l1 1 l0) rfl rfl (Nat.le_of_ble_eq_true rfl) ⟨(Nat.le_of_ble_eq_true rfl), (Nat.le_of_ble_eq_true rfl)⟩ ⟨rfl, rfl, (Nat.le_of_ble_eq_true rfl), (Nat.le_of_ble_eq_true rfl)⟩ dX13_takes_111 (fun v1 => ?_)
    exact dn_ret (Nat.le_of_ble_eq_true rfl) (Nat.le_of_ble_eq_true rfl) rfl dX13_takes_114
  have hj102 : jX13_takes w x b 102 0 0 [] [] (dnB (fX13_takes_j102) dnP) := by
    unfold fX13_takes_j102
    refine dn_iconst (pc := 102) (v := 1) dX13_takes_102 rfl ?_
    refine dn_goto (pc := 103) 107 dX13_takes_103 rfl ?_
    exact dn_ret (Nat.le_of_ble_eq_true rfl) (Nat.le_of_ble_eq_true rfl) rfl dX13_takes_107
  refine dn_iload_n (pc := 0) 0 dX13_takes_0 rfl ?_
  refine dn_tcase (pc := 1) 0 60 dX13_takes_1 (by decide) (by decide) rfl rfl (fun _ => ?_) (fun n1_0 => ?_)
  · refine dn_iload_n (pc := 60) 1 dX13_takes_60 rfl ?_
    refine dn_if_ne (pc := 61) 68 dX13_takes_61 rfl (fun _ => ?_) (fun _ => ?_)
    · refine dn_iconst (pc := 68) (v := 0) dX13_takes_68 rfl ?_
      exact dn_ret (Nat.le_of_ble_eq_true rfl) (Nat.le_of_ble_eq_true rfl) rfl dX13_takes_69
    · refine dn_iconst (pc := 64) (v := 1) dX13_takes_64 rfl ?_
      refine dn_goto (pc := 65) 69 dX13_takes_65 rfl ?_
      exact dn_ret (Nat.le_of_ble_eq_true rfl) (Nat.le_of_ble_eq_true rfl) rfl dX13_takes_69
  · refine dn_tcase (pc := 1) 1 70 dX13_takes_1 (by decide) (by decide) rfl rfl (fun _ => ?_) (fun n1_1 => ?_)
    · refine dn_iload_n (pc := 70) 1 dX13_takes_70 rfl ?_
      refine dn_iconst (pc := 71) (v := 1) dX13_takes_71 rfl ?_
      refine dn_icmp_ne (pc := 72) 79 dX13_takes_72 rfl (fun _ => ?_) (fun _ => ?_)
      · refine dn_iconst (pc := 79) (v := 0) dX13_takes_79 rfl ?_
        exact dn_ret (Nat.le_of_ble_eq_true rfl) (Nat.le_of_ble_eq_true rfl) rfl dX13_takes_80
      · refine dn_iconst (pc := 75) (v := 1) dX13_takes_75 rfl ?_
        refine dn_goto (pc := 76) 80 dX13_takes_76 rfl ?_
        exact dn_ret (Nat.le_of_ble_eq_true rfl) (Nat.le_of_ble_eq_true rfl) rfl dX13_takes_80
    · refine dn_tcase (pc := 1) 2 81 dX13_takes_1 (by decide) (by decide) rfl rfl (fun _ => ?_) (fun n1_2 => ?_)
      · refine dn_iload_n (pc := 81) 1 dX13_takes_81 rfl ?_
        refine dn_iconst (pc := 82) (v := 2) dX13_takes_82 rfl ?_
        refine dn_icmp_ne (pc := 83) 90 dX13_takes_83 rfl (fun _ => ?_) (fun _ => ?_)
        · refine dn_iconst (pc := 90) (v := 0) dX13_takes_90 rfl ?_
          exact dn_ret (Nat.le_of_ble_eq_true rfl) (Nat.le_of_ble_eq_true rfl) rfl dX13_takes_91
        · refine dn_iconst (pc := 86) (v := 1) dX13_takes_86 rfl ?_
          refine dn_goto (pc := 87) 91 dX13_takes_87 rfl ?_
          exact dn_ret (Nat.le_of_ble_eq_true rfl) (Nat.le_of_ble_eq_true rfl) rfl dX13_takes_91
      · refine dn_tcase (pc := 1) 3 92 dX13_takes_1 (by decide) (by decide) rfl rfl (fun _ => ?_) (fun n1_3 => ?_)
        · refine dn_iload_n (pc := 92) 1 dX13_takes_92 rfl ?_
          refine dn_iconst (pc := 93) (v := 1) dX13_takes_93 rfl ?_
          refine dn_icmp_eq (pc := 94) 102 dX13_takes_94 rfl (fun _ => ?_) (fun _ => ?_)
          · exact dn_lv [] rfl (hj102)
          · refine dn_iload_n (pc := 97) 1 dX13_takes_97 rfl ?_
            refine dn_iconst (pc := 98) (v := 3) dX13_takes_98 rfl ?_
            refine dn_icmp_ne (pc := 99) 106 dX13_takes_99 rfl (fun _ => ?_) (fun _ => ?_)
            · refine dn_iconst (pc := 106) (v := 0) dX13_takes_106 rfl ?_
              exact dn_ret (Nat.le_of_ble_eq_true rfl) (Nat.le_of_ble_eq_true rfl) rfl dX13_takes_107
            · exact dn_lv [] rfl (hj102)
        · refine dn_tcase (pc := 1) 4 108 dX13_takes_1 (by decide) (by decide) rfl rfl (fun _ => ?_) (fun n1_4 => ?_)
          · exact dn_lv [0, 1] rfl (hj108 p0 p1)
          · refine dn_tcase (pc := 1) 5 108 dX13_takes_1 (by decide) (by decide) rfl rfl (fun _ => ?_) (fun n1_5 => ?_)
            · exact dn_lv [0, 1] rfl (hj108 p0 p1)
            · refine dn_tcase (pc := 1) 6 108 dX13_takes_1 (by decide) (by decide) rfl rfl (fun _ => ?_) (fun n1_6 => ?_)
              · exact dn_lv [0, 1] rfl (hj108 p0 p1)
              · refine dn_tcase (pc := 1) 7 108 dX13_takes_1 (by decide) (by decide) rfl rfl (fun _ => ?_) (fun n1_7 => ?_)
                · exact dn_lv [0, 1] rfl (hj108 p0 p1)
                · refine dn_tcase (pc := 1) 8 115 dX13_takes_1 (by decide) (by decide) rfl rfl (fun _ => ?_) (fun n1_8 => ?_)
                  · refine dn_iconst (pc := 115) (v := 1) dX13_takes_115 rfl ?_
                    exact dn_ret (Nat.le_of_ble_eq_true rfl) (Nat.le_of_ble_eq_true rfl) rfl dX13_takes_116
                  · refine dn_tcase (pc := 1) 9 117 dX13_takes_1 (by decide) (by decide) rfl rfl (fun _ => ?_) (fun n1_9 => ?_)
                    · refine dn_iload_n (pc := 117) 1 dX13_takes_117 rfl ?_
                      refine dn_iconst (pc := 118) (v := 4) dX13_takes_118 rfl ?_
                      refine dn_icmp_eq (pc := 119) 128 dX13_takes_119 rfl (fun _ => ?_) (fun _ => ?_)
                      · exact dn_lv [] rfl (hj128)
                      · refine dn_iload_n (pc := 122) 1 dX13_takes_122 rfl ?_
                        refine dn_bipush (pc := 123) (v := 11) dX13_takes_123 rfl ?_
                        refine dn_icmp_ne (pc := 125) 132 dX13_takes_125 rfl (fun _ => ?_) (fun _ => ?_)
                        · refine dn_iconst (pc := 132) (v := 0) dX13_takes_132 rfl ?_
                          exact dn_ret (Nat.le_of_ble_eq_true rfl) (Nat.le_of_ble_eq_true rfl) rfl dX13_takes_133
                        · exact dn_lv [] rfl (hj128)
                    · refine dn_tcase (pc := 1) 10 134 dX13_takes_1 (by decide) (by decide) rfl rfl (fun _ => ?_) (fun n1_10 => ?_)
                      · refine dn_iload_n (pc := 134) 1 dX13_takes_134 rfl ?_
                        refine dn_bipush (pc := 135) (v := 8) dX13_takes_135 rfl ?_
                        refine dn_icmp_eq (pc := 137) 152 dX13_takes_137 rfl (fun _ => ?_) (fun _ => ?_)
                        · exact dn_lv [] rfl (hj152)
                        · refine dn_iload_n (pc := 140) 1 dX13_takes_140 rfl ?_
                          refine dn_bipush (pc := 141) (v := 9) dX13_takes_141 rfl ?_
                          refine dn_icmp_eq (pc := 143) 152 dX13_takes_143 rfl (fun _ => ?_) (fun _ => ?_)
                          · exact dn_lv [] rfl (hj152)
                          · refine dn_iload_n (pc := 146) 1 dX13_takes_146 rfl ?_
                            refine dn_bipush (pc := 147) (v := 11) dX13_takes_147 rfl ?_
                            refine dn_icmp_ne (pc := 149) 156 dX13_takes_149 rfl (fun _ => ?_) (fun _ => ?_)
                            · refine dn_iconst (pc := 156) (v := 0) dX13_takes_156 rfl ?_
                              exact dn_ret (Nat.le_of_ble_eq_true rfl) (Nat.le_of_ble_eq_true rfl) rfl dX13_takes_157
                            · exact dn_lv [] rfl (hj152)
                      · refine dn_tout (pc := 1) [0, 1, 2, 3, 4, 5, 6, 7, 8, 9, 10] 158 dX13_takes_1 (List.forall_mem_cons.mpr ⟨n1_0, (List.forall_mem_cons.mpr ⟨n1_1, (List.forall_mem_cons.mpr ⟨n1_2, (List.forall_mem_cons.mpr ⟨n1_3, (List.forall_mem_cons.mpr ⟨n1_4, (List.forall_mem_cons.mpr ⟨n1_5, (List.forall_mem_cons.mpr ⟨n1_6, (List.forall_mem_cons.mpr ⟨n1_7, (List.forall_mem_cons.mpr ⟨n1_8, (List.forall_mem_cons.mpr ⟨n1_9, (List.forall_mem_cons.mpr ⟨n1_10, (fun _ h => absurd h List.not_mem_nil)⟩)⟩)⟩)⟩)⟩)⟩)⟩)⟩)⟩)⟩)⟩) (by decide) rfl ?_
                        refine dn_iload_n (pc := 158) 1 dX13_takes_158 rfl ?_
                        refine dn_bipush (pc := 159) (v := 10) dX13_takes_159 rfl ?_
                        refine dn_icmp_eq (pc := 161) 170 dX13_takes_161 rfl (fun _ => ?_) (fun _ => ?_)
                        · exact dn_lv [] rfl (hj170)
                        · refine dn_iload_n (pc := 164) 1 dX13_takes_164 rfl ?_
                          refine dn_bipush (pc := 165) (v := 11) dX13_takes_165 rfl ?_
                          refine dn_icmp_ne (pc := 167) 174 dX13_takes_167 rfl (fun _ => ?_) (fun _ => ?_)
                          · refine dn_iconst (pc := 174) (v := 0) dX13_takes_174 rfl ?_
                            exact dn_ret (Nat.le_of_ble_eq_true rfl) (Nat.le_of_ble_eq_true rfl) rfl dX13_takes_175
                          · exact dn_lv [] rfl (hj170)
