abbrev rmX12_first : Room := { frames := 0, cells := 0, slots := 0, locals := 0 }
def fX12_first (r0 : Option Nat) : dnM Int32 :=
  dnB (dnGR r0 10 3) fun v1 =>
  dnB (dnGI v1 1 1) fun v2 =>
  dnP v2
abbrev jX12_first (w : dnWd) (x : dnX) (b : Nat) := dnD w x b (fun _ => True) cX12_first RX12 1 rmX12_first "first" eI
set_option maxHeartbeats 4000000 in
set_option maxRecDepth 100000 in
theorem mX12_first (w : dnWd) (x : dnX) (b : Nat) (r0 : Option Nat) : dnMt w x b yX12_first cX12_first 1 (some .int) rmX12_first eI [dnV b r0] (fX12_first r0) := by
  have hlv : lv_args 0 [dnV b r0] = [(0, dnV b r0)] := by cases r0 <;> rfl
  refine dn_mt (by decide +kernel) roI (by cases r0 <;> exact (Nat.le_of_ble_eq_true rfl)) ?_
  rw [hlv]
  refine dn_top ?_
  show jX12_first w x b 0 0 0 _ [] (dnB _ dnP)
  unfold fX12_first
  refine dn_aload_n (pc := 0) r0 0 dX12_first_0 rfl ?_
  refine dn_getR (pc := 1) r0 lRX12_26 dX12_first_1 (fun v1 => ?_)
  refine dn_getI (pc := 4) v1 lRX12_223 dX12_first_4 (fun v2 => ?_)
  exact dn_ret (Nat.le_of_ble_eq_true rfl) (Nat.le_of_ble_eq_true rfl) rfl dX12_first_7
abbrev rmX12_isAct : Room := { frames := 0, cells := 0, slots := 0, locals := 0 }
def fX12_isAct (p0 : Int32) : dnM Bool :=
  if p0 < 0 then
  (dnP false)
  else
  (if 28 ≤ p0 then
  (dnP false)
  else
  (dnP true))
abbrev jX12_isAct (w : dnWd) (x : dnX) (b : Nat) := dnD w x b (fun _ => True) cX12_isAct RX12 1 rmX12_isAct "isAct" eZ
set_option maxHeartbeats 4000000 in
set_option maxRecDepth 100000 in
theorem mX12_isAct (w : dnWd) (x : dnX) (b : Nat) (p0 : Int32) : dnMt w x b yX12_isAct cX12_isAct 1 (some .boolean) rmX12_isAct eZ [.int p0] (fX12_isAct p0) := by
  have hlv : lv_args 0 [.int p0] = [(0, .int p0)] := by rfl
  refine dn_mt (by decide +kernel) roZ (by exact (Nat.le_of_ble_eq_true rfl)) ?_
  rw [hlv]
  refine dn_top ?_
  show jX12_isAct w x b 0 0 0 _ [] (dnB _ dnP)
  unfold fX12_isAct
  refine dn_iload_n (pc := 0) 0 dX12_isAct_0 rfl ?_
  refine dn_if_lt (pc := 1) 14 dX12_isAct_1 rfl (fun _ => ?_) (fun _ => ?_)
  · refine dn_iconst (pc := 14) (v := 0) dX12_isAct_14 rfl ?_
    exact dn_ret (Nat.le_of_ble_eq_true rfl) (Nat.le_of_ble_eq_true rfl) rfl dX12_isAct_15
  · refine dn_iload_n (pc := 4) 0 dX12_isAct_4 rfl ?_
    refine dn_bipush (pc := 5) (v := 28) dX12_isAct_5 rfl ?_
    refine dn_icmp_ge (pc := 7) 14 dX12_isAct_7 rfl (fun _ => ?_) (fun _ => ?_)
    · refine dn_iconst (pc := 14) (v := 0) dX12_isAct_14 rfl ?_
      exact dn_ret (Nat.le_of_ble_eq_true rfl) (Nat.le_of_ble_eq_true rfl) rfl dX12_isAct_15
    · refine dn_iconst (pc := 10) (v := 1) dX12_isAct_10 rfl ?_
      refine dn_goto (pc := 11) 15 dX12_isAct_11 rfl ?_
      exact dn_ret (Nat.le_of_ble_eq_true rfl) (Nat.le_of_ble_eq_true rfl) rfl dX12_isAct_15
abbrev rmX12_fits : Room := { frames := 3, cells := 0, slots := 0, locals := 63 }
def fX12_fits_j14 (l0 : Option Nat) : dnM Int32 :=
  dnB (dnCv l0 10 (fX12_tally l0 (-1))) fun v1 =>
  dnP v1
def fX12_fits (r0 : Option Nat) (p1 : Int32) (p2 : Int32) : dnM Int32 :=
  dnB (fX12_isAct p1) fun v2 =>
  if v2 = true then
  (dnB (fX12_isKind p2) fun v3 =>
  if v3 = true then
  (dnB (fX12_allows p1 p2) fun v4 =>
  if v4 = true then
  (dnP 1)
  else
  (dnP 0))
  else
  (fX12_fits_j14 r0))
  else
  (fX12_fits_j14 r0)
abbrev jX12_fits (w : dnWd) (x : dnX) (b : Nat) := dnD w x b (fun _ => True) cX12_fits RX12 3 rmX12_fits "fits" eI
set_option maxHeartbeats 4000000 in
set_option maxRecDepth 100000 in
theorem mX12_fits (w : dnWd) (x : dnX) (b : Nat) (r0 : Option Nat) (p1 : Int32) (p2 : Int32) : dnMt w x b yX12_fits cX12_fits 3 (some .int) rmX12_fits eI [dnV b r0, .int p1, .int p2] (fX12_fits r0 p1 p2) := by
  have hlv : lv_args 0 [dnV b r0, .int p1, .int p2] = [(0, dnV b r0), (1, .int p1), (2, .int p2)] := by cases r0 <;> rfl
  refine dn_mt (by decide +kernel) roI (by cases r0 <;> exact (Nat.le_of_ble_eq_true rfl)) ?_
  rw [hlv]
  refine dn_top ?_
  show jX12_fits w x b 0 0 0 _ [] (dnB _ dnP)
  unfold fX12_fits
  have hj14 : ∀ (l0 : Option Nat), jX12_fits w x b 14 0 0 [(0, dnV b l0)] [] (dnB (fX12_fits_j14 l0) dnP) := by
    intro l0
    unfold fX12_fits_j14
    refine dn_aload_n (pc := 14) l0 0 dX12_fits_14 rfl ?_
    refine dn_iconst (pc := 15) (v := -1) dX12_fits_15 rfl ?_
    refine dn_callV0I (pc := 16) [.int (-1)] l0 kRX12_91 (mX12_tally w x b l0 (-1)) rfl rfl (Nat.le_of_ble_eq_true rfl) ⟨(Nat.le_of_ble_eq_true rfl), (Nat.le_of_ble_eq_true rfl)⟩ ⟨rfl, rfl, (Nat.le_of_ble_eq_true rfl), (Nat.le_of_ble_eq_true rfl)⟩ dX12_fits_16 (fun v1 => ?_)
    exact dn_ret (Nat.le_of_ble_eq_true rfl) (Nat.le_of_ble_eq_true rfl) rfl dX12_fits_19
  refine dn_iload_n (pc := 0) 1 dX12_fits_0 rfl ?_
  refine dn_callS0Z (pc := 1) [.int p1]  kRX12_234 (mX12_isAct w x b p1) rfl rfl (Nat.le_of_ble_eq_true rfl) ⟨(Nat.le_of_ble_eq_true rfl), (Nat.le_of_ble_eq_true rfl)⟩ ⟨rfl, rfl, (Nat.le_of_ble_eq_true rfl), (Nat.le_of_ble_eq_true rfl)⟩ dX12_fits_1 (fun v2 => ?_)
  refine dn_ifz_eq (pc := 4) 14 dX12_fits_4 rfl (fun _ => ?_) (fun _ => ?_)
  · refine dn_iload_n (pc := 7) 2 dX12_fits_7 rfl ?_
    refine dn_callS0Z (pc := 8) [.int p2]  kRX12_227 (mX12_isKind w x b p2) rfl rfl (Nat.le_of_ble_eq_true rfl) ⟨(Nat.le_of_ble_eq_true rfl), (Nat.le_of_ble_eq_true rfl)⟩ ⟨rfl, rfl, (Nat.le_of_ble_eq_true rfl), (Nat.le_of_ble_eq_true rfl)⟩ dX12_fits_8 (fun v3 => ?_)
    refine dn_ifz_ne (pc := 11) 20 dX12_fits_11 rfl (fun _ => ?_) (fun _ => ?_)
    · refine dn_iload_n (pc := 20) 1 dX12_fits_20 rfl ?_
      refine dn_iload_n (pc := 21) 2 dX12_fits_21 rfl ?_
      refine dn_callS0Z (pc := 22) [.int p1, .int p2]  kRX12_237 (mX12_allows w x b p1 p2) rfl rfl (Nat.le_of_ble_eq_true rfl) ⟨(Nat.le_of_ble_eq_true rfl), (Nat.le_of_ble_eq_true rfl)⟩ ⟨rfl, rfl, (Nat.le_of_ble_eq_true rfl), (Nat.le_of_ble_eq_true rfl)⟩ dX12_fits_22 (fun v4 => ?_)
      refine dn_ifz_eq (pc := 25) 32 dX12_fits_25 rfl (fun _ => ?_) (fun _ => ?_)
      · refine dn_iconst (pc := 28) (v := 1) dX12_fits_28 rfl ?_
        refine dn_goto (pc := 29) 33 dX12_fits_29 rfl ?_
        exact dn_ret (Nat.le_of_ble_eq_true rfl) (Nat.le_of_ble_eq_true rfl) rfl dX12_fits_33
      · refine dn_iconst (pc := 32) (v := 0) dX12_fits_32 rfl ?_
        exact dn_ret (Nat.le_of_ble_eq_true rfl) (Nat.le_of_ble_eq_true rfl) rfl dX12_fits_33
    · exact dn_lv [0] rfl (hj14 r0)
  · exact dn_lv [0] rfl (hj14 r0)
abbrev rmX12_flat : Room := { frames := 5, cells := 0, slots := 0, locals := 120 }
def fX12_flat (r0 : Option Nat) (p1 : Int32) (p2 : Int32) (p3 : Int32) : dnM Int32 :=
  dnB (dnGR r0 10 5) fun v1 =>
  dnB (dnCv v1 9 (fX11_flatten v1 p1 p2 p3)) fun v2 =>
  dnB (dnCv r0 10 (fX12_tally r0 v2)) fun v3 =>
  dnP v3
abbrev jX12_flat (w : dnWd) (x : dnX) (b : Nat) := dnD w x b (fun _ => True) cX12_flat RX12 4 rmX12_flat "flat" eI
set_option maxHeartbeats 4000000 in
set_option maxRecDepth 100000 in
theorem mX12_flat (w : dnWd) (x : dnX) (b : Nat) (r0 : Option Nat) (p1 : Int32) (p2 : Int32) (p3 : Int32) : dnMt w x b yX12_flat cX12_flat 4 (some .int) rmX12_flat eI [dnV b r0, .int p1, .int p2, .int p3] (fX12_flat r0 p1 p2 p3) := by
  have hlv : lv_args 0 [dnV b r0, .int p1, .int p2, .int p3] = [(0, dnV b r0), (1, .int p1), (2, .int p2), (3, .int p3)] := by cases r0 <;> rfl
  refine dn_mt (by decide +kernel) roI (by cases r0 <;> exact (Nat.le_of_ble_eq_true rfl)) ?_
  rw [hlv]
  refine dn_top ?_
  show jX12_flat w x b 0 0 0 _ [] (dnB _ dnP)
  unfold fX12_flat
  refine dn_aload_n (pc := 0) r0 0 dX12_flat_0 rfl ?_
  refine dn_aload_n (pc := 1) r0 0 dX12_flat_1 rfl ?_
  refine dn_getR (pc := 2) r0 lRX12_42 dX12_flat_2 (fun v1 => ?_)
  refine dn_iload_n (pc := 5) 1 dX12_flat_5 rfl ?_
  refine dn_iload_n (pc := 6) 2 dX12_flat_6 rfl ?_
  refine dn_iload_n (pc := 7) 3 dX12_flat_7 rfl ?_
  refine dn_callV0I (pc := 8) [.int p1, .int p2, .int p3] v1 kRX12_170 (mX11_flatten w x b v1 p1 p2 p3) rfl rfl (Nat.le_of_ble_eq_true rfl) ⟨(Nat.le_of_ble_eq_true rfl), (Nat.le_of_ble_eq_true rfl)⟩ ⟨rfl, rfl, (Nat.le_of_ble_eq_true rfl), (Nat.le_of_ble_eq_true rfl)⟩ dX12_flat_8 (fun v2 => ?_)
  refine dn_callV0I (pc := 11) [.int v2] r0 kRX12_91 (mX12_tally w x b r0 v2) rfl rfl (Nat.le_of_ble_eq_true rfl) ⟨(Nat.le_of_ble_eq_true rfl), (Nat.le_of_ble_eq_true rfl)⟩ ⟨rfl, rfl, (Nat.le_of_ble_eq_true rfl), (Nat.le_of_ble_eq_true rfl)⟩ dX12_flat_11 (fun v3 => ?_)
  exact dn_ret (Nat.le_of_ble_eq_true rfl) (Nat.le_of_ble_eq_true rfl) rfl dX12_flat_14
abbrev rmX12_flip : Room := { frames := 5, cells := 0, slots := 0, locals := 111 }
def fX12_flip (r0 : Option Nat) (p1 : Int32) (p2 : Int32) : dnM Int32 :=
  dnB (dnGR r0 10 4) fun v1 =>
  dnB (dnCv v1 5 (fX6_reverse v1 p1 p2)) fun v2 =>
  dnB (dnCv r0 10 (fX12_tally r0 v2)) fun v3 =>
  dnP v3
abbrev jX12_flip (w : dnWd) (x : dnX) (b : Nat) := dnD w x b (fun _ => True) cX12_flip RX12 3 rmX12_flip "flip" eI
set_option maxHeartbeats 4000000 in
set_option maxRecDepth 100000 in
theorem mX12_flip (w : dnWd) (x : dnX) (b : Nat) (r0 : Option Nat) (p1 : Int32) (p2 : Int32) : dnMt w x b yX12_flip cX12_flip 3 (some .int) rmX12_flip eI [dnV b r0, .int p1, .int p2] (fX12_flip r0 p1 p2) := by
  have hlv : lv_args 0 [dnV b r0, .int p1, .int p2] = [(0, dnV b r0), (1, .int p1), (2, .int p2)] := by cases r0 <;> rfl
  refine dn_mt (by decide +kernel) roI (by cases r0 <;> exact (Nat.le_of_ble_eq_true rfl)) ?_
  rw [hlv]
  refine dn_top ?_
  show jX12_flip w x b 0 0 0 _ [] (dnB _ dnP)
  unfold fX12_flip
  refine dn_aload_n (pc := 0) r0 0 dX12_flip_0 rfl ?_
  refine dn_aload_n (pc := 1) r0 0 dX12_flip_1 rfl ?_
  refine dn_getR (pc := 2) r0 lRX12_35 dX12_flip_2 (fun v1 => ?_)
  refine dn_iload_n (pc := 5) 1 dX12_flip_5 rfl ?_
  refine dn_iload_n (pc := 6) 2 dX12_flip_6 rfl ?_
  refine dn_callV0I (pc := 7) [.int p1, .int p2] v1 kRX12_151 (mX6_reverse w x b v1 p1 p2) rfl rfl (Nat.le_of_ble_eq_true rfl) ⟨(Nat.le_of_ble_eq_true rfl), (Nat.le_of_ble_eq_true rfl)⟩ ⟨rfl, rfl, (Nat.le_of_ble_eq_true rfl), (Nat.le_of_ble_eq_true rfl)⟩ dX12_flip_7 (fun v2 => ?_)
  refine dn_callV0I (pc := 10) [.int v2] r0 kRX12_91 (mX12_tally w x b r0 v2) rfl rfl (Nat.le_of_ble_eq_true rfl) ⟨(Nat.le_of_ble_eq_true rfl), (Nat.le_of_ble_eq_true rfl)⟩ ⟨rfl, rfl, (Nat.le_of_ble_eq_true rfl), (Nat.le_of_ble_eq_true rfl)⟩ dX12_flip_10 (fun v3 => ?_)
  exact dn_ret (Nat.le_of_ble_eq_true rfl) (Nat.le_of_ble_eq_true rfl) rfl dX12_flip_13
abbrev rmX12_fold : Room := { frames := 4, cells := 0, slots := 0, locals := 103 }
def fX12_fold (r0 : Option Nat) (p1 : Int32) (p2 : Int32) (p3 : Int32) (p4 : Int32) (p5 : Int32) : dnM Int32 :=
  dnB (dnGR r0 10 6) fun v1 =>
  dnB (dnCv v1 8 (fX10_foldCells v1 p1 p2 p3 p4 p5)) fun v2 =>
  dnB (dnCv r0 10 (fX12_tally r0 v2)) fun v3 =>
  dnP v3
abbrev jX12_fold (w : dnWd) (x : dnX) (b : Nat) := dnD w x b (fun _ => True) cX12_fold RX12 6 rmX12_fold "fold" eI
set_option maxHeartbeats 4000000 in
set_option maxRecDepth 100000 in
theorem mX12_fold (w : dnWd) (x : dnX) (b : Nat) (r0 : Option Nat) (p1 : Int32) (p2 : Int32) (p3 : Int32) (p4 : Int32) (p5 : Int32) : dnMt w x b yX12_fold cX12_fold 6 (some .int) rmX12_fold eI [dnV b r0, .int p1, .int p2, .int p3, .int p4, .int p5] (fX12_fold r0 p1 p2 p3 p4 p5) := by
  have hlv : lv_args 0 [dnV b r0, .int p1, .int p2, .int p3, .int p4, .int p5] = [(0, dnV b r0), (1, .int p1), (2, .int p2), (3, .int p3), (4, .int p4), (5, .int p5)] := by cases r0 <;> rfl
  refine dn_mt (by decide +kernel) roI (by cases r0 <;> exact (Nat.le_of_ble_eq_true rfl)) ?_
  rw [hlv]
  refine dn_top ?_
  show jX12_fold w x b 0 0 0 _ [] (dnB _ dnP)
  unfold fX12_fold
  refine dn_aload_n (pc := 0) r0 0 dX12_fold_0 rfl ?_
  refine dn_aload_n (pc := 1) r0 0 dX12_fold_1 rfl ?_
  refine dn_getR (pc := 2) r0 lRX12_49 dX12_fold_2 (fun v1 => ?_)
  refine dn_iload_n (pc := 5) 1 dX12_fold_5 rfl ?_
  refine dn_iload_n (pc := 6) 2 dX12_fold_6 rfl ?_
  refine dn_iload_n (pc := 7) 3 dX12_fold_7 rfl ?_
  refine dn_iload (pc := 8) 4 dX12_fold_8 rfl ?_
  refine dn_iload (pc := 10) 5 dX12_fold_10 rfl ?_
  refine dn_callV0I (pc := 12) [.int p1, .int p2, .int p3, .int p4, .int p5] v1 kRX12_182 (mX10_foldCells w x b v1 p1 p2 p3 p4 p5) rfl rfl (Nat.le_of_ble_eq_true rfl) ⟨(Nat.le_of_ble_eq_true rfl), (Nat.le_of_ble_eq_true rfl)⟩ ⟨rfl, rfl, (Nat.le_of_ble_eq_true rfl), (Nat.le_of_ble_eq_true rfl)⟩ dX12_fold_12 (fun v2 => ?_)
  refine dn_callV0I (pc := 15) [.int v2] r0 kRX12_91 (mX12_tally w x b r0 v2) rfl rfl (Nat.le_of_ble_eq_true rfl) ⟨(Nat.le_of_ble_eq_true rfl), (Nat.le_of_ble_eq_true rfl)⟩ ⟨rfl, rfl, (Nat.le_of_ble_eq_true rfl), (Nat.le_of_ble_eq_true rfl)⟩ dX12_fold_15 (fun v3 => ?_)
  exact dn_ret (Nat.le_of_ble_eq_true rfl) (Nat.le_of_ble_eq_true rfl) rfl dX12_fold_18
abbrev rmX1_removeAll : Room := { frames := 0, cells := 0, slots := 0, locals := 0 }
def fX1_removeAll (r0 : Option Nat) : dnM Int32 :=
  dnB (dnGI r0 0 3) fun v1 =>
  dnB (dnPI r0 0 3 0) fun _ =>
  dnP v1
abbrev jX1_removeAll (w : dnWd) (x : dnX) (b : Nat) := dnD w x b (fun _ => True) cX1_removeAll RX1 2 rmX1_removeAll "removeAll" eI
set_option maxHeartbeats 4000000 in
set_option maxRecDepth 100000 in
theorem mX1_removeAll (w : dnWd) (x : dnX) (b : Nat) (r0 : Option Nat) : dnMt w x b yX1_removeAll cX1_removeAll 2 (some .int) rmX1_removeAll eI [dnV b r0] (fX1_removeAll r0) := by
  have hlv : lv_args 0 [dnV b r0] = [(0, dnV b r0)] := by cases r0 <;> rfl
  refine dn_mt (by decide +kernel) roI (by cases r0 <;> exact (Nat.le_of_ble_eq_true rfl)) ?_
  rw [hlv]
  refine dn_top ?_
  show jX1_removeAll w x b 0 0 0 _ [] (dnB _ dnP)
  unfold fX1_removeAll
  refine dn_aload_n (pc := 0) r0 0 dX1_removeAll_0 rfl ?_
  refine dn_getI (pc := 1) r0 lRX1_18 dX1_removeAll_1 (fun v1 => ?_)
  refine dn_istore_n (pc := 4) dX1_removeAll_4 (Nat.le_of_ble_eq_true rfl) (dnKp_nb 0 rfl (dn_cat b _) rfl (dnKp_of (lv2 := []) [] rfl rfl)) ?_
  refine dn_aload_n (pc := 5) r0 1 dX1_removeAll_5 rfl ?_
  refine dn_iconst (pc := 6) (v := 0) dX1_removeAll_6 rfl ?_
  refine dn_putI (pc := 7) r0 lRX1_18 dX1_removeAll_7 ?_
  refine dn_iload_n (pc := 10) 0 dX1_removeAll_10 rfl ?_
  exact dn_ret (Nat.le_of_ble_eq_true rfl) (Nat.le_of_ble_eq_true rfl) rfl dX1_removeAll_11
abbrev rmX12_forget : Room := { frames := 1, cells := 0, slots := 0, locals := 21 }
def fX12_forget (r0 : Option Nat) : dnM Int32 :=
  dnB (dnGR r0 10 10) fun v1 =>
  dnB (dnCv v1 0 (fX1_removeAll v1)) fun v2 =>
  dnP v2
abbrev jX12_forget (w : dnWd) (x : dnX) (b : Nat) := dnD w x b (fun _ => True) cX12_forget RX12 1 rmX12_forget "forget" eI
set_option maxHeartbeats 4000000 in
set_option maxRecDepth 100000 in
theorem mX12_forget (w : dnWd) (x : dnX) (b : Nat) (r0 : Option Nat) : dnMt w x b yX12_forget cX12_forget 1 (some .int) rmX12_forget eI [dnV b r0] (fX12_forget r0) := by
  have hlv : lv_args 0 [dnV b r0] = [(0, dnV b r0)] := by cases r0 <;> rfl
  refine dn_mt (by decide +kernel) roI (by cases r0 <;> exact (Nat.le_of_ble_eq_true rfl)) ?_
  rw [hlv]
  refine dn_top ?_
  show jX12_forget w x b 0 0 0 _ [] (dnB _ dnP)
  unfold fX12_forget
  refine dn_aload_n (pc := 0) r0 0 dX12_forget_0 rfl ?_
  refine dn_getR (pc := 1) r0 lRX12_79 dX12_forget_1 (fun v1 => ?_)
  refine dn_callV0I (pc := 4) [] v1 kRX12_244 (mX1_removeAll w x b v1) rfl rfl (Nat.le_of_ble_eq_true rfl) ⟨(Nat.le_of_ble_eq_true rfl), (Nat.le_of_ble_eq_true rfl)⟩ ⟨rfl, rfl, (Nat.le_of_ble_eq_true rfl), (Nat.le_of_ble_eq_true rfl)⟩ dX12_forget_4 (fun v2 => ?_)
  exact dn_ret (Nat.le_of_ble_eq_true rfl) (Nat.le_of_ble_eq_true rfl) rfl dX12_forget_7
abbrev rmX9_newGrid : Room := { frames := 1, cells := 0, slots := 0, locals := 22 }
def fX9_newGrid (r0 : Option Nat) (p1 : Int32) (p2 : Int32) : dnM Int32 :=
  dnB (fX12_isGrid p1) fun v1 =>
  if v1 = true then
  (if p2 ≤ 6 then
  (if 0 ≤ p2 then
  (dnB (dnCv r0 7 (fX9_startGrid r0 p2)) fun _ =>
  dnB (dnCv r0 7 (fX9_finishGrid r0 p1)) fun v3 =>
  dnP v3)
  else
  (dnP (-8)))
  else
  (dnP (-1)))
  else
  (dnP (-1))
abbrev jX9_newGrid (w : dnWd) (x : dnX) (b : Nat) := dnD w x b (fun _ => True) cX9_newGrid RX9 3 rmX9_newGrid "newGrid" eI
set_option maxHeartbeats 4000000 in
set_option maxRecDepth 100000 in
theorem mX9_newGrid (w : dnWd) (x : dnX) (b : Nat) (r0 : Option Nat) (p1 : Int32) (p2 : Int32) : dnMt w x b yX9_newGrid cX9_newGrid 3 (some .int) rmX9_newGrid eI [dnV b r0, .int p1, .int p2] (fX9_newGrid r0 p1 p2) := by
  have hlv : lv_args 0 [dnV b r0, .int p1, .int p2] = [(0, dnV b r0), (1, .int p1), (2, .int p2)] := by cases r0 <;> rfl
  refine dn_mt (by decide +kernel) roI (by cases r0 <;> exact (Nat.le_of_ble_eq_true rfl)) ?_
  rw [hlv]
  refine dn_top ?_
  show jX9_newGrid w x b 0 0 0 _ [] (dnB _ dnP)
  unfold fX9_newGrid
  refine dn_iload_n (pc := 0) 1 dX9_newGrid_0 rfl ?_
  refine dn_callSN0Z (pc := 1) [.int p1]  kRX9_47 (mX12_isGrid w x b p1) rfl rfl (Nat.le_of_ble_eq_true rfl) ⟨(Nat.le_of_ble_eq_true rfl), (Nat.le_of_ble_eq_true rfl)⟩ ⟨rfl, rfl, (Nat.le_of_ble_eq_true rfl), (Nat.le_of_ble_eq_true rfl)⟩ dX9_newGrid_1 (fun v1 => ?_)
  refine dn_ifz_eq (pc := 4) 13 dX9_newGrid_4 rfl (fun _ => ?_) (fun _ => ?_)
  · refine dn_iload_n (pc := 7) 2 dX9_newGrid_7 rfl ?_
    refine dn_bipush (pc := 8) (v := 6) dX9_newGrid_8 rfl ?_
    refine dn_icmp_le (pc := 10) 15 dX9_newGrid_10 rfl (fun _ => ?_) (fun _ => ?_)
    · refine dn_iload_n (pc := 15) 2 dX9_newGrid_15 rfl ?_
      refine dn_if_ge (pc := 16) 22 dX9_newGrid_16 rfl (fun _ => ?_) (fun _ => ?_)
      · refine dn_aload_n (pc := 22) r0 0 dX9_newGrid_22 rfl ?_
        refine dn_iload_n (pc := 23) 2 dX9_newGrid_23 rfl ?_
        refine dn_callV0U (pc := 24) [.int p2] r0 kRX9_78 (mX9_startGrid w x b r0 p2) rfl rfl (Nat.le_of_ble_eq_true rfl) ⟨(Nat.le_of_ble_eq_true rfl), (Nat.le_of_ble_eq_true rfl)⟩ ⟨rfl, rfl, (Nat.le_of_ble_eq_true rfl), (Nat.le_of_ble_eq_true rfl)⟩ dX9_newGrid_24 (fun _ => ?_)
        refine dn_aload_n (pc := 27) r0 0 dX9_newGrid_27 rfl ?_
        refine dn_iload_n (pc := 28) 1 dX9_newGrid_28 rfl ?_
        refine dn_callV0I (pc := 29) [.int p1] r0 kRX9_81 (mX9_finishGrid w x b r0 p1) rfl rfl (Nat.le_of_ble_eq_true rfl) ⟨(Nat.le_of_ble_eq_true rfl), (Nat.le_of_ble_eq_true rfl)⟩ ⟨rfl, rfl, (Nat.le_of_ble_eq_true rfl), (Nat.le_of_ble_eq_true rfl)⟩ dX9_newGrid_29 (fun v3 => ?_)
        exact dn_ret (Nat.le_of_ble_eq_true rfl) (Nat.le_of_ble_eq_true rfl) rfl dX9_newGrid_32
      · refine dn_bipush (pc := 19) (v := -8) dX9_newGrid_19 rfl ?_
        exact dn_ret (Nat.le_of_ble_eq_true rfl) (Nat.le_of_ble_eq_true rfl) rfl dX9_newGrid_21
    · refine dn_iconst (pc := 13) (v := -1) dX9_newGrid_13 rfl ?_
      exact dn_ret (Nat.le_of_ble_eq_true rfl) (Nat.le_of_ble_eq_true rfl) rfl dX9_newGrid_14
  · refine dn_iconst (pc := 13) (v := -1) dX9_newGrid_13 rfl ?_
    exact dn_ret (Nat.le_of_ble_eq_true rfl) (Nat.le_of_ble_eq_true rfl) rfl dX9_newGrid_14
abbrev rmX12_grid : Room := { frames := 2, cells := 0, slots := 0, locals := 44 }
def fX12_grid (r0 : Option Nat) (p1 : Int32) (p2 : Int32) : dnM Int32 :=
  dnB (dnGR r0 10 0) fun v1 =>
  dnB (dnCv v1 7 (fX9_newGrid v1 p1 p2)) fun v2 =>
  dnB (dnCv r0 10 (fX12_tally r0 v2)) fun v3 =>
  dnP v3
abbrev jX12_grid (w : dnWd) (x : dnX) (b : Nat) := dnD w x b (fun _ => True) cX12_grid RX12 3 rmX12_grid "grid" eI
set_option maxHeartbeats 4000000 in
set_option maxRecDepth 100000 in
theorem mX12_grid (w : dnWd) (x : dnX) (b : Nat) (r0 : Option Nat) (p1 : Int32) (p2 : Int32) : dnMt w x b yX12_grid cX12_grid 3 (some .int) rmX12_grid eI [dnV b r0, .int p1, .int p2] (fX12_grid r0 p1 p2) := by
  have hlv : lv_args 0 [dnV b r0, .int p1, .int p2] = [(0, dnV b r0), (1, .int p1), (2, .int p2)] := by cases r0 <;> rfl
  refine dn_mt (by decide +kernel) roI (by cases r0 <;> exact (Nat.le_of_ble_eq_true rfl)) ?_
  rw [hlv]
  refine dn_top ?_
  show jX12_grid w x b 0 0 0 _ [] (dnB _ dnP)
  unfold fX12_grid
  refine dn_aload_n (pc := 0) r0 0 dX12_grid_0 rfl ?_
  refine dn_aload_n (pc := 1) r0 0 dX12_grid_1 rfl ?_
  refine dn_getR (pc := 2) r0 lRX12_10 dX12_grid_2 (fun v1 => ?_)
  refine dn_iload_n (pc := 5) 1 dX12_grid_5 rfl ?_
  refine dn_iload_n (pc := 6) 2 dX12_grid_6 rfl ?_
  refine dn_callV0I (pc := 7) [.int p1, .int p2] v1 kRX12_87 (mX9_newGrid w x b v1 p1 p2) rfl rfl (Nat.le_of_ble_eq_true rfl) ⟨(Nat.le_of_ble_eq_true rfl), (Nat.le_of_ble_eq_true rfl)⟩ ⟨rfl, rfl, (Nat.le_of_ble_eq_true rfl), (Nat.le_of_ble_eq_true rfl)⟩ dX12_grid_7 (fun v2 => ?_)
  refine dn_callV0I (pc := 10) [.int v2] r0 kRX12_91 (mX12_tally w x b r0 v2) rfl rfl (Nat.le_of_ble_eq_true rfl) ⟨(Nat.le_of_ble_eq_true rfl), (Nat.le_of_ble_eq_true rfl)⟩ ⟨rfl, rfl, (Nat.le_of_ble_eq_true rfl), (Nat.le_of_ble_eq_true rfl)⟩ dX12_grid_10 (fun v3 => ?_)
  exact dn_ret (Nat.le_of_ble_eq_true rfl) (Nat.le_of_ble_eq_true rfl) rfl dX12_grid_13
abbrev rmX12_holds : Room := { frames := 4, cells := 0, slots := 0, locals := 88 }
def fX12_holds (r0 : Option Nat) (p1 : Int32) (p2 : Int32) : dnM Int32 :=
  dnB (dnGR r0 10 0) fun v1 =>
  dnB (dnCv v1 7 (fX9_contentOf v1 p1 p2)) fun v2 =>
  dnB (dnCv r0 10 (fX12_tally r0 v2)) fun v3 =>
  dnP v3
abbrev jX12_holds (w : dnWd) (x : dnX) (b : Nat) := dnD w x b (fun _ => True) cX12_holds RX12 3 rmX12_holds "holds" eI
set_option maxHeartbeats 4000000 in
set_option maxRecDepth 100000 in
theorem mX12_holds (w : dnWd) (x : dnX) (b : Nat) (r0 : Option Nat) (p1 : Int32) (p2 : Int32) : dnMt w x b yX12_holds cX12_holds 3 (some .int) rmX12_holds eI [dnV b r0, .int p1, .int p2] (fX12_holds r0 p1 p2) := by
  have hlv : lv_args 0 [dnV b r0, .int p1, .int p2] = [(0, dnV b r0), (1, .int p1), (2, .int p2)] := by cases r0 <;> rfl
  refine dn_mt (by decide +kernel) roI (by cases r0 <;> exact (Nat.le_of_ble_eq_true rfl)) ?_
  rw [hlv]
  refine dn_top ?_
  show jX12_holds w x b 0 0 0 _ [] (dnB _ dnP)
  unfold fX12_holds
  refine dn_aload_n (pc := 0) r0 0 dX12_holds_0 rfl ?_
  refine dn_aload_n (pc := 1) r0 0 dX12_holds_1 rfl ?_
  refine dn_getR (pc := 2) r0 lRX12_10 dX12_holds_2 (fun v1 => ?_)
  refine dn_iload_n (pc := 5) 1 dX12_holds_5 rfl ?_
  refine dn_iload_n (pc := 6) 2 dX12_holds_6 rfl ?_
  refine dn_callV0I (pc := 7) [.int p1, .int p2] v1 kRX12_112 (mX9_contentOf w x b v1 p1 p2) rfl rfl (Nat.le_of_ble_eq_true rfl) ⟨(Nat.le_of_ble_eq_true rfl), (Nat.le_of_ble_eq_true rfl)⟩ ⟨rfl, rfl, (Nat.le_of_ble_eq_true rfl), (Nat.le_of_ble_eq_true rfl)⟩ dX12_holds_7 (fun v2 => ?_)
  refine dn_callV0I (pc := 10) [.int v2] r0 kRX12_91 (mX12_tally w x b r0 v2) rfl rfl (Nat.le_of_ble_eq_true rfl) ⟨(Nat.le_of_ble_eq_true rfl), (Nat.le_of_ble_eq_true rfl)⟩ ⟨rfl, rfl, (Nat.le_of_ble_eq_true rfl), (Nat.le_of_ble_eq_true rfl)⟩ dX12_holds_10 (fun v3 => ?_)
  exact dn_ret (Nat.le_of_ble_eq_true rfl) (Nat.le_of_ble_eq_true rfl) rfl dX12_holds_13
abbrev rmX1_init : Room := { frames := 1, cells := 2, slots := 12, locals := 20 }
def fX1_init (r0 : Option Nat) (r1 : Option Nat) : dnM Unit :=
  dnB (dnCk r0 0) fun _ =>
  dnB (dnNa 100 6) fun v1 =>
  dnB (dnPR r0 0 1 v1) fun _ =>
  dnB (dnNa 100 6) fun v2 =>
  dnB (dnPR r0 0 2 v2) fun _ =>
  dnB (dnPI r0 0 3 0) fun _ =>
  dnB (dnPR r0 0 0 r1) fun _ =>
  dnP ()
abbrev jX1_init (w : dnWd) (x : dnX) (b : Nat) := dnD w x b (fun _ => True) cX1_init RX1 2 rmX1_init "<init>" eU
set_option maxHeartbeats 4000000 in
set_option maxRecDepth 100000 in
theorem mX1_init (w : dnWd) (x : dnX) (b : Nat) (r0 : Option Nat) (r1 : Option Nat) : dnMt w x b yX1_init cX1_init 2 none rmX1_init eU [dnV b r0, dnV b r1] (fX1_init r0 r1) := by
  have hlv : lv_args 0 [dnV b r0, dnV b r1] = [(0, dnV b r0), (1, dnV b r1)] := by cases r0 <;> cases r1 <;> rfl
  refine dn_mt (by decide +kernel) roU (by cases r0 <;> cases r1 <;> exact (Nat.le_of_ble_eq_true rfl)) ?_
  rw [hlv]
  refine dn_top ?_
  show jX1_init w x b 0 0 0 _ [] (dnB _ dnP)
  unfold fX1_init
  refine dn_aload_n (pc := 0) r0 0 dX1_init_0 rfl ?_
  refine dn_objInitC (pc := 1) r0 kRX1_3 ko_1 ko_2 dX1_init_1 ⟨(Nat.le_of_ble_eq_true rfl), (Nat.le_of_ble_eq_true rfl)⟩ (Nat.le_of_ble_eq_true rfl) ?_
  refine dn_aload_n (pc := 4) r0 0 dX1_init_4 rfl ?_
  refine dn_bipush (pc := 5) (v := 6) dX1_init_5 rfl ?_
  refine dn_newaI (pc := 7) 6 rfl ka_int (Nat.le_of_ble_eq_true rfl) ⟨(Nat.le_of_ble_eq_true rfl), (Nat.le_of_ble_eq_true rfl)⟩ dX1_init_7 (fun v1 => ?_)
  refine dn_putRF (pc := 9) r0 lRX1_9 rfl rfl dX1_init_9 ?_
  refine dn_aload_n (pc := 12) r0 0 dX1_init_12 rfl ?_
  refine dn_bipush (pc := 13) (v := 6) dX1_init_13 rfl ?_
  refine dn_newaI (pc := 15) 6 rfl ka_int (Nat.le_of_ble_eq_true rfl) ⟨(Nat.le_of_ble_eq_true rfl), (Nat.le_of_ble_eq_true rfl)⟩ dX1_init_15 (fun v2 => ?_)
  refine dn_putRF (pc := 17) r0 lRX1_15 rfl rfl dX1_init_17 ?_
  refine dn_aload_n (pc := 20) r0 0 dX1_init_20 rfl ?_
  refine dn_iconst (pc := 21) (v := 0) dX1_init_21 rfl ?_
  refine dn_putI (pc := 22) r0 lRX1_18 dX1_init_22 ?_
  refine dn_aload_n (pc := 25) r0 0 dX1_init_25 rfl ?_
  refine dn_aload_n (pc := 26) r1 1 dX1_init_26 rfl ?_
  refine dn_putRF (pc := 27) r0 lRX1_22 rfl rfl dX1_init_27 ?_
  exact dn_ret (Nat.le_of_ble_eq_true rfl) (Nat.le_of_ble_eq_true rfl) rfl dX1_init_30
abbrev rmX2_init : Room := { frames := 1, cells := 0, slots := 0, locals := 20 }
def fX2_init (r0 : Option Nat) : dnM Unit :=
  dnB (dnCk r0 1) fun _ =>
  dnB (dnPL r0 1 0 0) fun _ =>
  dnB (dnPI r0 1 1 (-9)) fun _ =>
  dnB (dnPI r0 1 2 0) fun _ =>
  dnP ()
abbrev jX2_init (w : dnWd) (x : dnX) (b : Nat) := dnD w x b (fun _ => True) cX2_init RX2 1 rmX2_init "<init>" eU
set_option maxHeartbeats 4000000 in
set_option maxRecDepth 100000 in
theorem mX2_init (w : dnWd) (x : dnX) (b : Nat) (r0 : Option Nat) : dnMt w x b yX2_init cX2_init 1 none rmX2_init eU [dnV b r0] (fX2_init r0) := by
  have hlv : lv_args 0 [dnV b r0] = [(0, dnV b r0)] := by cases r0 <;> rfl
  refine dn_mt (by decide +kernel) roU (by cases r0 <;> exact (Nat.le_of_ble_eq_true rfl)) ?_
  rw [hlv]
  refine dn_top ?_
  show jX2_init w x b 0 0 0 _ [] (dnB _ dnP)
  unfold fX2_init
  refine dn_aload_n (pc := 0) r0 0 dX2_init_0 rfl ?_
  refine dn_objInitC (pc := 1) r0 kRX2_3 ko_1 ko_2 dX2_init_1 ⟨(Nat.le_of_ble_eq_true rfl), (Nat.le_of_ble_eq_true rfl)⟩ (Nat.le_of_ble_eq_true rfl) ?_
  refine dn_aload_n (pc := 4) r0 0 dX2_init_4 rfl ?_
  refine dn_lconst (pc := 5) (v := 0) dX2_init_5 rfl ?_
  refine dn_putL (pc := 6) r0 lRX2_9 dX2_init_6 ?_
  refine dn_aload_n (pc := 9) r0 0 dX2_init_9 rfl ?_
  refine dn_bipush (pc := 10) (v := -9) dX2_init_10 rfl ?_
  refine dn_putI (pc := 12) r0 lRX2_15 dX2_init_12 ?_
  refine dn_aload_n (pc := 15) r0 0 dX2_init_15 rfl ?_
  refine dn_iconst (pc := 16) (v := 0) dX2_init_16 rfl ?_
  refine dn_putI (pc := 17) r0 lRX2_19 dX2_init_17 ?_
  exact dn_ret (Nat.le_of_ble_eq_true rfl) (Nat.le_of_ble_eq_true rfl) rfl dX2_init_20
abbrev rmX3_init : Room := { frames := 1, cells := 3, slots := 128, locals := 20 }
def fX3_init (r0 : Option Nat) : dnM Unit :=
  dnB (dnCk r0 2) fun _ =>
  dnB (dnNa 101 80) fun v1 =>
  dnB (dnPR r0 2 0 v1) fun _ =>
  dnB (dnPI r0 2 1 0) fun _ =>
  dnB (dnNa 100 8) fun v2 =>
  dnB (dnPR r0 2 2 v2) fun _ =>
  dnB (dnNa 100 40) fun v3 =>
  dnB (dnPR r0 2 3 v3) fun _ =>
  dnP ()
abbrev jX3_init (w : dnWd) (x : dnX) (b : Nat) := dnD w x b (fun _ => True) cX3_init RX3 1 rmX3_init "<init>" eU
set_option maxHeartbeats 4000000 in
set_option maxRecDepth 100000 in
theorem mX3_init (w : dnWd) (x : dnX) (b : Nat) (r0 : Option Nat) : dnMt w x b yX3_init cX3_init 1 none rmX3_init eU [dnV b r0] (fX3_init r0) := by
  have hlv : lv_args 0 [dnV b r0] = [(0, dnV b r0)] := by cases r0 <;> rfl
  refine dn_mt (by decide +kernel) roU (by cases r0 <;> exact (Nat.le_of_ble_eq_true rfl)) ?_
  rw [hlv]
  refine dn_top ?_
  show jX3_init w x b 0 0 0 _ [] (dnB _ dnP)
  unfold fX3_init
  refine dn_aload_n (pc := 0) r0 0 dX3_init_0 rfl ?_
  refine dn_objInitC (pc := 1) r0 kRX3_3 ko_1 ko_2 dX3_init_1 ⟨(Nat.le_of_ble_eq_true rfl), (Nat.le_of_ble_eq_true rfl)⟩ (Nat.le_of_ble_eq_true rfl) ?_
  refine dn_aload_n (pc := 4) r0 0 dX3_init_4 rfl ?_
  refine dn_bipush (pc := 5) (v := 80) dX3_init_5 rfl ?_
  refine dn_newaC (pc := 7) 80 rfl ka_char (Nat.le_of_ble_eq_true rfl) ⟨(Nat.le_of_ble_eq_true rfl), (Nat.le_of_ble_eq_true rfl)⟩ dX3_init_7 (fun v1 => ?_)
  refine dn_putRF (pc := 9) r0 lRX3_9 rfl rfl dX3_init_9 ?_
  refine dn_aload_n (pc := 12) r0 0 dX3_init_12 rfl ?_
  refine dn_iconst (pc := 13) (v := 0) dX3_init_13 rfl ?_
  refine dn_putI (pc := 14) r0 lRX3_15 dX3_init_14 ?_
  refine dn_aload_n (pc := 17) r0 0 dX3_init_17 rfl ?_
  refine dn_bipush (pc := 18) (v := 8) dX3_init_18 rfl ?_
  refine dn_newaI (pc := 20) 8 rfl ka_int (Nat.le_of_ble_eq_true rfl) ⟨(Nat.le_of_ble_eq_true rfl), (Nat.le_of_ble_eq_true rfl)⟩ dX3_init_20 (fun v2 => ?_)
  refine dn_putRF (pc := 22) r0 lRX3_19 rfl rfl dX3_init_22 ?_
  refine dn_aload_n (pc := 25) r0 0 dX3_init_25 rfl ?_
  refine dn_bipush (pc := 26) (v := 40) dX3_init_26 rfl ?_
  refine dn_newaI (pc := 28) 40 rfl ka_int (Nat.le_of_ble_eq_true rfl) ⟨(Nat.le_of_ble_eq_true rfl), (Nat.le_of_ble_eq_true rfl)⟩ dX3_init_28 (fun v3 => ?_)
  refine dn_putRF (pc := 30) r0 lRX3_23 rfl rfl dX3_init_30 ?_
  exact dn_ret (Nat.le_of_ble_eq_true rfl) (Nat.le_of_ble_eq_true rfl) rfl dX3_init_33
abbrev rmX5_init : Room := { frames := 1, cells := 3, slots := 36, locals := 20 }
def fX5_init (r0 : Option Nat) (p1 : Int32) : dnM Unit :=
  dnB (dnCk r0 4) fun _ =>
  dnB (dnPI r0 4 1 8) fun _ =>
  dnB (dnPI r0 4 2 0) fun _ =>
  dnB (dnNa 100 12) fun v1 =>
  dnB (dnPR r0 4 3 v1) fun _ =>
  dnB (dnNa 102 12) fun v2 =>
  dnB (dnPR r0 4 4 v2) fun _ =>
  dnB (dnNa 103 12) fun v3 =>
  dnB (dnPR r0 4 5 v3) fun _ =>
  dnB (dnPI r0 4 0 p1) fun _ =>
  dnP ()
abbrev jX5_init (w : dnWd) (x : dnX) (b : Nat) := dnD w x b (fun _ => True) cX5_init RX5 2 rmX5_init "<init>" eU
set_option maxHeartbeats 4000000 in
set_option maxRecDepth 100000 in
theorem mX5_init (w : dnWd) (x : dnX) (b : Nat) (r0 : Option Nat) (p1 : Int32) : dnMt w x b yX5_init cX5_init 2 none rmX5_init eU [dnV b r0, .int p1] (fX5_init r0 p1) := by
  have hlv : lv_args 0 [dnV b r0, .int p1] = [(0, dnV b r0), (1, .int p1)] := by cases r0 <;> rfl
  refine dn_mt (by decide +kernel) roU (by cases r0 <;> exact (Nat.le_of_ble_eq_true rfl)) ?_
  rw [hlv]
  refine dn_top ?_
  show jX5_init w x b 0 0 0 _ [] (dnB _ dnP)
  unfold fX5_init
  refine dn_aload_n (pc := 0) r0 0 dX5_init_0 rfl ?_
  refine dn_objInitC (pc := 1) r0 kRX5_3 ko_1 ko_2 dX5_init_1 ⟨(Nat.le_of_ble_eq_true rfl), (Nat.le_of_ble_eq_true rfl)⟩ (Nat.le_of_ble_eq_true rfl) ?_
  refine dn_aload_n (pc := 4) r0 0 dX5_init_4 rfl ?_
  refine dn_bipush (pc := 5) (v := 8) dX5_init_5 rfl ?_
  refine dn_putI (pc := 7) r0 lRX5_9 dX5_init_7 ?_
  refine dn_aload_n (pc := 10) r0 0 dX5_init_10 rfl ?_
  refine dn_iconst (pc := 11) (v := 0) dX5_init_11 rfl ?_
  refine dn_putI (pc := 12) r0 lRX5_15 dX5_init_12 ?_
  refine dn_aload_n (pc := 15) r0 0 dX5_init_15 rfl ?_
  refine dn_bipush (pc := 16) (v := 12) dX5_init_16 rfl ?_
  refine dn_newaI (pc := 18) 12 rfl ka_int (Nat.le_of_ble_eq_true rfl) ⟨(Nat.le_of_ble_eq_true rfl), (Nat.le_of_ble_eq_true rfl)⟩ dX5_init_18 (fun v1 => ?_)
  refine dn_putRF (pc := 20) r0 lRX5_18 rfl rfl dX5_init_20 ?_
  refine dn_aload_n (pc := 23) r0 0 dX5_init_23 rfl ?_
  refine dn_bipush (pc := 24) (v := 12) dX5_init_24 rfl ?_
  refine dn_newaL (pc := 26) 12 rfl ka_long (Nat.le_of_ble_eq_true rfl) ⟨(Nat.le_of_ble_eq_true rfl), (Nat.le_of_ble_eq_true rfl)⟩ dX5_init_26 (fun v2 => ?_)
  refine dn_putRF (pc := 28) r0 lRX5_22 rfl rfl dX5_init_28 ?_
  refine dn_aload_n (pc := 31) r0 0 dX5_init_31 rfl ?_
  refine dn_bipush (pc := 32) (v := 12) dX5_init_32 rfl ?_
  refine dn_newaD (pc := 34) 12 rfl ka_double (Nat.le_of_ble_eq_true rfl) ⟨(Nat.le_of_ble_eq_true rfl), (Nat.le_of_ble_eq_true rfl)⟩ dX5_init_34 (fun v3 => ?_)
  refine dn_putRF (pc := 36) r0 lRX5_26 rfl rfl dX5_init_36 ?_
  refine dn_aload_n (pc := 39) r0 0 dX5_init_39 rfl ?_
  refine dn_iload_n (pc := 40) 1 dX5_init_40 rfl ?_
  refine dn_putIF (pc := 41) r0 lRX5_30 rfl rfl dX5_init_41 ?_
  exact dn_ret (Nat.le_of_ble_eq_true rfl) (Nat.le_of_ble_eq_true rfl) rfl dX5_init_44
abbrev rmX4_init : Room := { frames := 2, cells := 6, slots := 186, locals := 41 }
def fX4_init (r0 : Option Nat) (r1 : Option Nat) (r2 : Option Nat) : dnM Unit :=
  dnB (dnCk r0 3) fun _ =>
  dnB (dnNo 4) fun v1 =>
  dnB (dnCv v1 4 (fX5_init v1 (-9))) fun _ =>
  dnB (dnPR r0 3 2 v1) fun _ =>
  dnB (dnNa 100 72) fun v3 =>
  dnB (dnPR r0 3 3 v3) fun _ =>
  dnB (dnNa 100 72) fun v4 =>
  dnB (dnPR r0 3 5 v4) fun _ =>
  dnB (dnPR r0 3 0 r1) fun _ =>
  dnB (dnPR r0 3 1 r2) fun _ =>
  dnP ()
abbrev jX4_init (w : dnWd) (x : dnX) (b : Nat) := dnD w x b (fun _ => True) cX4_init RX4 3 rmX4_init "<init>" eU
set_option maxHeartbeats 4000000 in
set_option maxRecDepth 100000 in
theorem mX4_init (w : dnWd) (x : dnX) (b : Nat) (r0 : Option Nat) (r1 : Option Nat) (r2 : Option Nat) : dnMt w x b yX4_init cX4_init 3 none rmX4_init eU [dnV b r0, dnV b r1, dnV b r2] (fX4_init r0 r1 r2) := by
  have hlv : lv_args 0 [dnV b r0, dnV b r1, dnV b r2] = [(0, dnV b r0), (1, dnV b r1), (2, dnV b r2)] := by cases r0 <;> cases r1 <;> cases r2 <;> rfl
  refine dn_mt (by decide +kernel) roU (by cases r0 <;> cases r1 <;> cases r2 <;> exact (Nat.le_of_ble_eq_true rfl)) ?_
  rw [hlv]
  refine dn_top ?_
  show jX4_init w x b 0 0 0 _ [] (dnB _ dnP)
  unfold fX4_init
  refine dn_aload_n (pc := 0) r0 0 dX4_init_0 rfl ?_
  refine dn_objInitC (pc := 1) r0 kRX4_3 ko_1 ko_2 dX4_init_1 ⟨(Nat.le_of_ble_eq_true rfl), (Nat.le_of_ble_eq_true rfl)⟩ (Nat.le_of_ble_eq_true rfl) ?_
  refine dn_aload_n (pc := 4) r0 0 dX4_init_4 rfl ?_
  refine dn_new (pc := 5) cl_4 (by decide) kRX4_9 ki_4 kn_4 ⟨(Nat.le_of_ble_eq_true rfl), (Nat.le_of_ble_eq_true rfl)⟩ dX4_init_5 (fun v1 => ?_)
  refine dn_dup (pc := 8) dX4_init_8 (dn_cat b _) ?_
  refine dn_bipush (pc := 9) (v := -9) dX4_init_9 rfl ?_
  refine dn_callIU (pc := 11) [.int (-9)] v1 kRX4_11 (mX5_init w x b v1 (-9)) rfl rfl (Nat.le_of_ble_eq_true rfl) ⟨(Nat.le_of_ble_eq_true rfl), (Nat.le_of_ble_eq_true rfl)⟩ ⟨(Nat.le_of_ble_eq_true rfl), (Nat.le_of_ble_eq_true rfl)⟩ dX4_init_11 (fun _ => ?_)
  refine dn_putRF (pc := 14) r0 lRX4_14 rfl rfl dX4_init_14 ?_
  refine dn_aload_n (pc := 17) r0 0 dX4_init_17 rfl ?_
  refine dn_bipush (pc := 18) (v := 72) dX4_init_18 rfl ?_
  refine dn_newaI (pc := 20) 72 rfl ka_int (Nat.le_of_ble_eq_true rfl) ⟨(Nat.le_of_ble_eq_true rfl), (Nat.le_of_ble_eq_true rfl)⟩ dX4_init_20 (fun v3 => ?_)
  refine dn_putRF (pc := 22) r0 lRX4_20 rfl rfl dX4_init_22 ?_
  refine dn_aload_n (pc := 25) r0 0 dX4_init_25 rfl ?_
  refine dn_bipush (pc := 26) (v := 72) dX4_init_26 rfl ?_
  refine dn_newaI (pc := 28) 72 rfl ka_int (Nat.le_of_ble_eq_true rfl) ⟨(Nat.le_of_ble_eq_true rfl), (Nat.le_of_ble_eq_true rfl)⟩ dX4_init_28 (fun v4 => ?_)
  refine dn_putRF (pc := 30) r0 lRX4_24 rfl rfl dX4_init_30 ?_
  refine dn_aload_n (pc := 33) r0 0 dX4_init_33 rfl ?_
  refine dn_aload_n (pc := 34) r1 1 dX4_init_34 rfl ?_
  refine dn_putRF (pc := 35) r0 lRX4_27 rfl rfl dX4_init_35 ?_
  refine dn_aload_n (pc := 38) r0 0 dX4_init_38 rfl ?_
  refine dn_aload_n (pc := 39) r2 2 dX4_init_39 rfl ?_
  refine dn_putRF (pc := 40) r0 lRX4_31 rfl rfl dX4_init_40 ?_
  exact dn_ret (Nat.le_of_ble_eq_true rfl) (Nat.le_of_ble_eq_true rfl) rfl dX4_init_43
abbrev rmX6_init : Room := { frames := 2, cells := 8, slots := 84, locals := 41 }
def fX6_init (r0 : Option Nat) (r1 : Option Nat) (r2 : Option Nat) : dnM Unit :=
  dnB (dnCk r0 5) fun _ =>
  dnB (dnNo 4) fun v1 =>
  dnB (dnCv v1 4 (fX5_init v1 (-9))) fun _ =>
  dnB (dnPR r0 5 2 v1) fun _ =>
  dnB (dnNo 4) fun v3 =>
  dnB (dnCv v3 4 (fX5_init v3 (-9))) fun _ =>
  dnB (dnPR r0 5 3 v3) fun _ =>
  dnB (dnPR r0 5 0 r1) fun _ =>
  dnB (dnPR r0 5 1 r2) fun _ =>
  dnP ()
abbrev jX6_init (w : dnWd) (x : dnX) (b : Nat) := dnD w x b (fun _ => True) cX6_init RX6 3 rmX6_init "<init>" eU
set_option maxHeartbeats 4000000 in
set_option maxRecDepth 100000 in
theorem mX6_init (w : dnWd) (x : dnX) (b : Nat) (r0 : Option Nat) (r1 : Option Nat) (r2 : Option Nat) : dnMt w x b yX6_init cX6_init 3 none rmX6_init eU [dnV b r0, dnV b r1, dnV b r2] (fX6_init r0 r1 r2) := by
  have hlv : lv_args 0 [dnV b r0, dnV b r1, dnV b r2] = [(0, dnV b r0), (1, dnV b r1), (2, dnV b r2)] := by cases r0 <;> cases r1 <;> cases r2 <;> rfl
  refine dn_mt (by decide +kernel) roU (by cases r0 <;> cases r1 <;> cases r2 <;> exact (Nat.le_of_ble_eq_true rfl)) ?_
  rw [hlv]
  refine dn_top ?_
  show jX6_init w x b 0 0 0 _ [] (dnB _ dnP)
  unfold fX6_init
  refine dn_aload_n (pc := 0) r0 0 dX6_init_0 rfl ?_
  refine dn_objInitC (pc := 1) r0 kRX6_3 ko_1 ko_2 dX6_init_1 ⟨(Nat.le_of_ble_eq_true rfl), (Nat.le_of_ble_eq_true rfl)⟩ (Nat.le_of_ble_eq_true rfl) ?_
  refine dn_aload_n (pc := 4) r0 0 dX6_init_4 rfl ?_
  refine dn_new (pc := 5) cl_4 (by decide) kRX6_9 ki_4 kn_4 ⟨(Nat.le_of_ble_eq_true rfl), (Nat.le_of_ble_eq_true rfl)⟩ dX6_init_5 (fun v1 => ?_)
  refine dn_dup (pc := 8) dX6_init_8 (dn_cat b _) ?_
  refine dn_bipush (pc := 9) (v := -9) dX6_init_9 rfl ?_
  refine dn_callIU (pc := 11) [.int (-9)] v1 kRX6_11 (mX5_init w x b v1 (-9)) rfl rfl (Nat.le_of_ble_eq_true rfl) ⟨(Nat.le_of_ble_eq_true rfl), (Nat.le_of_ble_eq_true rfl)⟩ ⟨(Nat.le_of_ble_eq_true rfl), (Nat.le_of_ble_eq_true rfl)⟩ dX6_init_11 (fun _ => ?_)
  refine dn_putRF (pc := 14) r0 lRX6_14 rfl rfl dX6_init_14 ?_
  refine dn_aload_n (pc := 17) r0 0 dX6_init_17 rfl ?_
  refine dn_new (pc := 18) cl_4 (by decide) kRX6_9 ki_4 kn_4 ⟨(Nat.le_of_ble_eq_true rfl), (Nat.le_of_ble_eq_true rfl)⟩ dX6_init_18 (fun v3 => ?_)
  refine dn_dup (pc := 21) dX6_init_21 (dn_cat b _) ?_
  refine dn_bipush (pc := 22) (v := -9) dX6_init_22 rfl ?_
  refine dn_callIU (pc := 24) [.int (-9)] v3 kRX6_11 (mX5_init w x b v3 (-9)) rfl rfl (Nat.le_of_ble_eq_true rfl) ⟨(Nat.le_of_ble_eq_true rfl), (Nat.le_of_ble_eq_true rfl)⟩ ⟨(Nat.le_of_ble_eq_true rfl), (Nat.le_of_ble_eq_true rfl)⟩ dX6_init_24 (fun _ => ?_)
  refine dn_putRF (pc := 27) r0 lRX6_20 rfl rfl dX6_init_27 ?_
  refine dn_aload_n (pc := 30) r0 0 dX6_init_30 rfl ?_
  refine dn_aload_n (pc := 31) r1 1 dX6_init_31 rfl ?_
  refine dn_putRF (pc := 32) r0 lRX6_23 rfl rfl dX6_init_32 ?_
  refine dn_aload_n (pc := 35) r0 0 dX6_init_35 rfl ?_
  refine dn_aload_n (pc := 36) r2 2 dX6_init_36 rfl ?_
  refine dn_putRF (pc := 37) r0 lRX6_27 rfl rfl dX6_init_37 ?_
  exact dn_ret (Nat.le_of_ble_eq_true rfl) (Nat.le_of_ble_eq_true rfl) rfl dX6_init_40
abbrev rmX7_init : Room := { frames := 1, cells := 3, slots := 36, locals := 20 }
def fX7_init (r0 : Option Nat) (r1 : Option Nat) (r2 : Option Nat) : dnM Unit :=
  dnB (dnCk r0 6) fun _ =>
  dnB (dnNa 102 12) fun v1 =>
  dnB (dnPR r0 6 2 v1) fun _ =>
  dnB (dnNa 102 12) fun v2 =>
  dnB (dnPR r0 6 3 v2) fun _ =>
  dnB (dnNa 102 12) fun v3 =>
  dnB (dnPR r0 6 4 v3) fun _ =>
  dnB (dnPR r0 6 0 r1) fun _ =>
  dnB (dnPR r0 6 1 r2) fun _ =>
  dnP ()
abbrev jX7_init (w : dnWd) (x : dnX) (b : Nat) := dnD w x b (fun _ => True) cX7_init RX7 3 rmX7_init "<init>" eU
set_option maxHeartbeats 4000000 in
set_option maxRecDepth 100000 in
theorem mX7_init (w : dnWd) (x : dnX) (b : Nat) (r0 : Option Nat) (r1 : Option Nat) (r2 : Option Nat) : dnMt w x b yX7_init cX7_init 3 none rmX7_init eU [dnV b r0, dnV b r1, dnV b r2] (fX7_init r0 r1 r2) := by
  have hlv : lv_args 0 [dnV b r0, dnV b r1, dnV b r2] = [(0, dnV b r0), (1, dnV b r1), (2, dnV b r2)] := by cases r0 <;> cases r1 <;> cases r2 <;> rfl
  refine dn_mt (by decide +kernel) roU (by cases r0 <;> cases r1 <;> cases r2 <;> exact (Nat.le_of_ble_eq_true rfl)) ?_
  rw [hlv]
  refine dn_top ?_
  show jX7_init w x b 0 0 0 _ [] (dnB _ dnP)
  unfold fX7_init
  refine dn_aload_n (pc := 0) r0 0 dX7_init_0 rfl ?_
  refine dn_objInitC (pc := 1) r0 kRX7_3 ko_1 ko_2 dX7_init_1 ⟨(Nat.le_of_ble_eq_true rfl), (Nat.le_of_ble_eq_true rfl)⟩ (Nat.le_of_ble_eq_true rfl) ?_
  refine dn_aload_n (pc := 4) r0 0 dX7_init_4 rfl ?_
  refine dn_bipush (pc := 5) (v := 12) dX7_init_5 rfl ?_
  refine dn_newaL (pc := 7) 12 rfl ka_long (Nat.le_of_ble_eq_true rfl) ⟨(Nat.le_of_ble_eq_true rfl), (Nat.le_of_ble_eq_true rfl)⟩ dX7_init_7 (fun v1 => ?_)
  refine dn_putRF (pc := 9) r0 lRX7_9 rfl rfl dX7_init_9 ?_
  refine dn_aload_n (pc := 12) r0 0 dX7_init_12 rfl ?_
  refine dn_bipush (pc := 13) (v := 12) dX7_init_13 rfl ?_
  refine dn_newaL (pc := 15) 12 rfl ka_long (Nat.le_of_ble_eq_true rfl) ⟨(Nat.le_of_ble_eq_true rfl), (Nat.le_of_ble_eq_true rfl)⟩ dX7_init_15 (fun v2 => ?_)
  refine dn_putRF (pc := 17) r0 lRX7_15 rfl rfl dX7_init_17 ?_
  refine dn_aload_n (pc := 20) r0 0 dX7_init_20 rfl ?_
  refine dn_bipush (pc := 21) (v := 12) dX7_init_21 rfl ?_
  refine dn_newaL (pc := 23) 12 rfl ka_long (Nat.le_of_ble_eq_true rfl) ⟨(Nat.le_of_ble_eq_true rfl), (Nat.le_of_ble_eq_true rfl)⟩ dX7_init_23 (fun v3 => ?_)
  refine dn_putRF (pc := 25) r0 lRX7_18 rfl rfl dX7_init_25 ?_
  refine dn_aload_n (pc := 28) r0 0 dX7_init_28 rfl ?_
  refine dn_aload_n (pc := 29) r1 1 dX7_init_29 rfl ?_
  refine dn_putRF (pc := 30) r0 lRX7_21 rfl rfl dX7_init_30 ?_
  refine dn_aload_n (pc := 33) r0 0 dX7_init_33 rfl ?_
  refine dn_aload_n (pc := 34) r2 2 dX7_init_34 rfl ?_
  refine dn_putRF (pc := 35) r0 lRX7_25 rfl rfl dX7_init_35 ?_
  exact dn_ret (Nat.le_of_ble_eq_true rfl) (Nat.le_of_ble_eq_true rfl) rfl dX7_init_38
abbrev rmX12_join : Room := { frames := 5, cells := 0, slots := 0, locals := 116 }
def fX12_join (r0 : Option Nat) (p1 : Int32) (p2 : Int32) (p3 : Int32) : dnM Int32 :=
  dnB (dnGR r0 10 4) fun v1 =>
  dnB (dnCv v1 5 (fX6_joinRows v1 p1 p2 p3)) fun v2 =>
  dnB (dnCv r0 10 (fX12_tally r0 v2)) fun v3 =>
  dnP v3
abbrev jX12_join (w : dnWd) (x : dnX) (b : Nat) := dnD w x b (fun _ => True) cX12_join RX12 4 rmX12_join "join" eI
set_option maxHeartbeats 4000000 in
set_option maxRecDepth 100000 in
theorem mX12_join (w : dnWd) (x : dnX) (b : Nat) (r0 : Option Nat) (p1 : Int32) (p2 : Int32) (p3 : Int32) : dnMt w x b yX12_join cX12_join 4 (some .int) rmX12_join eI [dnV b r0, .int p1, .int p2, .int p3] (fX12_join r0 p1 p2 p3) := by
  have hlv : lv_args 0 [dnV b r0, .int p1, .int p2, .int p3] = [(0, dnV b r0), (1, .int p1), (2, .int p2), (3, .int p3)] := by cases r0 <;> rfl
  refine dn_mt (by decide +kernel) roI (by cases r0 <;> exact (Nat.le_of_ble_eq_true rfl)) ?_
  rw [hlv]
  refine dn_top ?_
  show jX12_join w x b 0 0 0 _ [] (dnB _ dnP)
  unfold fX12_join
  refine dn_aload_n (pc := 0) r0 0 dX12_join_0 rfl ?_
  refine dn_aload_n (pc := 1) r0 0 dX12_join_1 rfl ?_
  refine dn_getR (pc := 2) r0 lRX12_35 dX12_join_2 (fun v1 => ?_)
  refine dn_iload_n (pc := 5) 1 dX12_join_5 rfl ?_
  refine dn_iload_n (pc := 6) 2 dX12_join_6 rfl ?_
  refine dn_iload_n (pc := 7) 3 dX12_join_7 rfl ?_
  refine dn_callV0I (pc := 8) [.int p1, .int p2, .int p3] v1 kRX12_148 (mX6_joinRows w x b v1 p1 p2 p3) rfl rfl (Nat.le_of_ble_eq_true rfl) ⟨(Nat.le_of_ble_eq_true rfl), (Nat.le_of_ble_eq_true rfl)⟩ ⟨rfl, rfl, (Nat.le_of_ble_eq_true rfl), (Nat.le_of_ble_eq_true rfl)⟩ dX12_join_8 (fun v2 => ?_)
  refine dn_callV0I (pc := 11) [.int v2] r0 kRX12_91 (mX12_tally w x b r0 v2) rfl rfl (Nat.le_of_ble_eq_true rfl) ⟨(Nat.le_of_ble_eq_true rfl), (Nat.le_of_ble_eq_true rfl)⟩ ⟨rfl, rfl, (Nat.le_of_ble_eq_true rfl), (Nat.le_of_ble_eq_true rfl)⟩ dX12_join_11 (fun v3 => ?_)
  exact dn_ret (Nat.le_of_ble_eq_true rfl) (Nat.le_of_ble_eq_true rfl) rfl dX12_join_14
abbrev rmX9_rowsOfKind : Room := { frames := 1, cells := 0, slots := 0, locals := 22 }
def fX9_rowsOfKind_j39 (l0 : Option Nat) (l1 : Int32) (l3 : Int32) (s0 : Int32) (s1 : Bool) : dnM ((Int32 × Int32) ⊕ (Int32)) :=
  dnP (.inl ((s0 + (dnZ s1)), (l3 + 1)))
def fX9_rowsOfKind_j38 (l0 : Option Nat) (l1 : Int32) (l3 : Int32) (s0 : Int32) : dnM ((Int32 × Int32) ⊕ (Int32)) :=
  fX9_rowsOfKind_j39 l0 l1 l3 s0 false
def fX9_rowsOfKind_b4 (c0 : Option Nat) (c1 : Int32) (s4 : Int32 × Int32) : dnM ((Int32 × Int32) ⊕ (Int32)) :=
  if 31 ≤ s4.2 then
  (dnP (.inr s4.1))
  else
  (dnB (dnGR c0 7 2) fun v1 =>
  dnB (dnAR v1 104 s4.2) fun v2 =>
  dnB (dnGI v2 4 1) fun v3 =>
  if ¬ v3 = c1 then
  (fX9_rowsOfKind_j38 c0 c1 s4.2 s4.1)
  else
  (dnB (dnCv c0 7 (fX9_firstHolder c0 s4.2)) fun v4 =>
  if v4 = (-9) then
  (fX9_rowsOfKind_j38 c0 c1 s4.2 s4.1)
  else
  (fX9_rowsOfKind_j39 c0 c1 s4.2 s4.1 true)))
def fX9_rowsOfKind (r0 : Option Nat) (p1 : Int32) : dnM Int32 :=
  dnB (dnIt 1000 (fX9_rowsOfKind_b4 r0 p1) (0, 0)) fun q4 =>
  dnP q4
abbrev jX9_rowsOfKind (w : dnWd) (x : dnX) (b : Nat) := dnD w x b (fun _ => True) cX9_rowsOfKind RX9 4 rmX9_rowsOfKind "rowsOfKind" eI
set_option maxHeartbeats 4000000 in
set_option maxRecDepth 100000 in
theorem mX9_rowsOfKind (w : dnWd) (x : dnX) (b : Nat) (r0 : Option Nat) (p1 : Int32) : dnMt w x b yX9_rowsOfKind cX9_rowsOfKind 4 (some .int) rmX9_rowsOfKind eI [dnV b r0, .int p1] (fX9_rowsOfKind r0 p1) := by
  have hlv : lv_args 0 [dnV b r0, .int p1] = [(0, dnV b r0), (1, .int p1)] := by cases r0 <;> rfl
  refine dn_mt (by decide +kernel) roI (by cases r0 <;> exact (Nat.le_of_ble_eq_true rfl)) ?_
  rw [hlv]
  refine dn_top ?_
  show jX9_rowsOfKind w x b 0 0 0 _ [] (dnB _ dnP)
  unfold fX9_rowsOfKind
  refine dn_iconst (pc := 0) (v := 0) dX9_rowsOfKind_0 rfl ?_
  refine dn_istore_n (pc := 1) dX9_rowsOfKind_1 (Nat.le_of_ble_eq_true rfl) (dnKp_nb 1 rfl rfl rfl (dnKp_of (lv2 := [(0, dnV b r0)]) [0] rfl rfl)) ?_
  refine dn_iconst (pc := 2) (v := 0) dX9_rowsOfKind_2 rfl ?_
  refine dn_istore_n (pc := 3) dX9_rowsOfKind_3 (Nat.le_of_ble_eq_true rfl) (dnKp_nb 0 rfl rfl rfl (dnKp_of (lv2 := [(1, .int p1), (0, dnV b r0)]) [1, 2] rfl rfl)) ?_
  refine dn_assoc ?_
  refine dn_lv [3, 2, 1, 0] (lv2 := (fun s => [(0, dnV b r0), (1, .int p1), (2, .int s.1), (3, .int s.2)]) (0, 0)) rfl ?_
  refine dn_loopE (pc := 4) (body := fX9_rowsOfKind_b4 r0 p1) 47 (fun s => [(0, dnV b r0), (1, .int p1), (2, .int s.1), (3, .int s.2)]) (fun q => [(2, .int q)]) (fun s4 K4 E4 hK4 hE4 => ?_) (fun q4 => ?_) 1000 (0, 0)
  · unfold fX9_rowsOfKind_b4
    have hj39 : ∀ (l3 : Int32) (s0 : Int32) (s1 : Bool), jX9_rowsOfKind w x b 39 0 0 [(0, dnV b r0), (1, .int p1), (3, .int l3)] [.int (dnZ s1), .int s0] (dnB (fX9_rowsOfKind_j39 r0 p1 l3 s0 s1) (dnKo K4 E4)) := by
      intro l3 s0 s1
      unfold fX9_rowsOfKind_j39
      refine dn_iadd (pc := 39) dX9_rowsOfKind_39 ?_
      refine dn_istore_n (pc := 40) dX9_rowsOfKind_40 (Nat.le_of_ble_eq_true rfl) (dnKp_nb 1 rfl rfl rfl (dnKp_of (lv2 := [(0, dnV b r0), (3, .int l3)]) [0, 2] rfl rfl)) ?_
      refine dn_iinc (pc := 41) (l3 + 1) 3 dX9_rowsOfKind_41 rfl rfl (Nat.le_of_ble_eq_true rfl) (dnKp_nb 0 rfl rfl rfl (dnKp_of (lv2 := [(1, .int p1), (0, dnV b r0)]) [1, 2] rfl rfl)) ?_
      refine dn_goto (pc := 44) 4 dX9_rowsOfKind_44 rfl ?_
      refine dn_leaf ?_
      exact dn_lv [3, 2, 1, 0] rfl (hK4 ((s0 + (dnZ s1)), (l3 + 1)))
    have hj38 : ∀ (l3 : Int32) (s0 : Int32), jX9_rowsOfKind w x b 38 0 0 [(0, dnV b r0), (1, .int p1), (3, .int l3)] [.int s0] (dnB (fX9_rowsOfKind_j38 r0 p1 l3 s0) (dnKo K4 E4)) := by
      intro l3 s0
      unfold fX9_rowsOfKind_j38
      refine dn_iconst (pc := 38) (v := 0) dX9_rowsOfKind_38 rfl ?_
      exact dn_lv [0, 1, 2] rfl (hj39 l3 s0 false)
    refine dn_iload_n (pc := 4) 3 dX9_rowsOfKind_4 rfl ?_
    refine dn_bipush (pc := 5) (v := 31) dX9_rowsOfKind_5 rfl ?_
    refine dn_icmp_ge (pc := 7) 47 dX9_rowsOfKind_7 rfl (fun _ => ?_) (fun _ => ?_)
    · refine dn_leaf ?_
      exact dn_lv [2] rfl (hE4 s4.1)
    · refine dn_iload_n (pc := 10) 2 dX9_rowsOfKind_10 rfl ?_
      refine dn_aload_n (pc := 11) r0 0 dX9_rowsOfKind_11 rfl ?_
      refine dn_getR (pc := 12) r0 lRX9_20 dX9_rowsOfKind_12 (fun v1 => ?_)
      refine dn_iload_n (pc := 15) 3 dX9_rowsOfKind_15 rfl ?_
      refine dn_aaldW (pc := 16) v1 dX9_rowsOfKind_16 (fun v2 => ?_)
      refine dn_getI (pc := 17) v2 lRX9_97 dX9_rowsOfKind_17 (fun v3 => ?_)
      refine dn_iload_n (pc := 20) 1 dX9_rowsOfKind_20 rfl ?_
      refine dn_icmp_ne (pc := 21) 38 dX9_rowsOfKind_21 rfl (fun _ => ?_) (fun _ => ?_)
      · exact dn_lv [0, 1, 3] rfl (hj38 s4.2 s4.1)
      · refine dn_aload_n (pc := 24) r0 0 dX9_rowsOfKind_24 rfl ?_
        refine dn_iload_n (pc := 25) 3 dX9_rowsOfKind_25 rfl ?_
        refine dn_callV0I (pc := 26) [.int s4.2] r0 kRX9_59 (mX9_firstHolder w x b r0 s4.2) rfl rfl (Nat.le_of_ble_eq_true rfl) ⟨(Nat.le_of_ble_eq_true rfl), (Nat.le_of_ble_eq_true rfl)⟩ ⟨rfl, rfl, (Nat.le_of_ble_eq_true rfl), (Nat.le_of_ble_eq_true rfl)⟩ dX9_rowsOfKind_26 (fun v4 => ?_)
        refine dn_bipush (pc := 29) (v := -9) dX9_rowsOfKind_29 rfl ?_
        refine dn_icmp_eq (pc := 31) 38 dX9_rowsOfKind_31 rfl (fun _ => ?_) (fun _ => ?_)
        · exact dn_lv [0, 1, 3] rfl (hj38 s4.2 s4.1)
        · refine dn_iconst (pc := 34) (v := 1) dX9_rowsOfKind_34 rfl ?_
          refine dn_goto (pc := 35) 39 dX9_rowsOfKind_35 rfl ?_
          exact dn_lv [0, 1, 3] rfl (hj39 s4.2 s4.1 true)
  · refine dn_iload_n (pc := 47) 0 dX9_rowsOfKind_47 rfl ?_
    exact dn_ret (Nat.le_of_ble_eq_true rfl) (Nat.le_of_ble_eq_true rfl) rfl dX9_rowsOfKind_48
abbrev rmX12_kinds : Room := { frames := 2, cells := 0, slots := 0, locals := 45 }
def fX12_kinds (r0 : Option Nat) (p1 : Int32) : dnM Int32 :=
  dnB (fX12_isKind p1) fun v1 =>
  if v1 = true then
  (dnB (dnGR r0 10 0) fun v2 =>
  dnB (dnCv v2 7 (fX9_rowsOfKind v2 p1)) fun v3 =>
  dnP v3)
  else
  (dnP (-1))
abbrev jX12_kinds (w : dnWd) (x : dnX) (b : Nat) := dnD w x b (fun _ => True) cX12_kinds RX12 2 rmX12_kinds "kinds" eI
set_option maxHeartbeats 4000000 in
set_option maxRecDepth 100000 in
theorem mX12_kinds (w : dnWd) (x : dnX) (b : Nat) (r0 : Option Nat) (p1 : Int32) : dnMt w x b yX12_kinds cX12_kinds 2 (some .int) rmX12_kinds eI [dnV b r0, .int p1] (fX12_kinds r0 p1) := by
  have hlv : lv_args 0 [dnV b r0, .int p1] = [(0, dnV b r0), (1, .int p1)] := by cases r0 <;> rfl
  refine dn_mt (by decide +kernel) roI (by cases r0 <;> exact (Nat.le_of_ble_eq_true rfl)) ?_
  rw [hlv]
  refine dn_top ?_
  show jX12_kinds w x b 0 0 0 _ [] (dnB _ dnP)
  unfold fX12_kinds
  refine dn_iload_n (pc := 0) 1 dX12_kinds_0 rfl ?_
  refine dn_callS0Z (pc := 1) [.int p1]  kRX12_227 (mX12_isKind w x b p1) rfl rfl (Nat.le_of_ble_eq_true rfl) ⟨(Nat.le_of_ble_eq_true rfl), (Nat.le_of_ble_eq_true rfl)⟩ ⟨rfl, rfl, (Nat.le_of_ble_eq_true rfl), (Nat.le_of_ble_eq_true rfl)⟩ dX12_kinds_1 (fun v1 => ?_)
  refine dn_ifz_eq (pc := 4) 18 dX12_kinds_4 rfl (fun _ => ?_) (fun _ => ?_)
  · refine dn_aload_n (pc := 7) r0 0 dX12_kinds_7 rfl ?_
    refine dn_getR (pc := 8) r0 lRX12_10 dX12_kinds_8 (fun v2 => ?_)
    refine dn_iload_n (pc := 11) 1 dX12_kinds_11 rfl ?_
    refine dn_callV0I (pc := 12) [.int p1] v2 kRX12_275 (mX9_rowsOfKind w x b v2 p1) rfl rfl (Nat.le_of_ble_eq_true rfl) ⟨(Nat.le_of_ble_eq_true rfl), (Nat.le_of_ble_eq_true rfl)⟩ ⟨rfl, rfl, (Nat.le_of_ble_eq_true rfl), (Nat.le_of_ble_eq_true rfl)⟩ dX12_kinds_12 (fun v3 => ?_)
    refine dn_goto (pc := 15) 19 dX12_kinds_15 rfl ?_
    exact dn_ret (Nat.le_of_ble_eq_true rfl) (Nat.le_of_ble_eq_true rfl) rfl dX12_kinds_19
  · refine dn_iconst (pc := 18) (v := -1) dX12_kinds_18 rfl ?_
    exact dn_ret (Nat.le_of_ble_eq_true rfl) (Nat.le_of_ble_eq_true rfl) rfl dX12_kinds_19
abbrev rmX12_least : Room := { frames := 1, cells := 0, slots := 0, locals := 21 }
def fX12_least_j29 (s0 : Option Nat) (s1 : Int32) : dnM Int32 :=
  dnB (dnCv s0 10 (fX12_tally s0 s1)) fun v1 =>
  dnP v1
def fX12_least_j28 (s0 : Option Nat) : dnM Int32 :=
  fX12_least_j29 s0 (-1)
def fX12_least (r0 : Option Nat) (p1 : Int32) (p2 : Int32) : dnM Int32 :=
  dnB (fX12_isKind p1) fun v2 =>
  if v2 = true then
  (dnB (fX12_isKind p2) fun v3 =>
  if v3 = true then
  (dnB (fX12_leastKind ((1 <<< (p1 &&& 31)) ||| (1 <<< (p2 &&& 31)))) fun v4 =>
  fX12_least_j29 r0 v4)
  else
  (fX12_least_j28 r0))
  else
  (fX12_least_j28 r0)
abbrev jX12_least (w : dnWd) (x : dnX) (b : Nat) := dnD w x b (fun _ => True) cX12_least RX12 3 rmX12_least "least" eI
set_option maxHeartbeats 4000000 in
set_option maxRecDepth 100000 in
theorem mX12_least (w : dnWd) (x : dnX) (b : Nat) (r0 : Option Nat) (p1 : Int32) (p2 : Int32) : dnMt w x b yX12_least cX12_least 3 (some .int) rmX12_least eI [dnV b r0, .int p1, .int p2] (fX12_least r0 p1 p2) := by
  have hlv : lv_args 0 [dnV b r0, .int p1, .int p2] = [(0, dnV b r0), (1, .int p1), (2, .int p2)] := by cases r0 <;> rfl
  refine dn_mt (by decide +kernel) roI (by cases r0 <;> exact (Nat.le_of_ble_eq_true rfl)) ?_
  rw [hlv]
  refine dn_top ?_
  show jX12_least w x b 0 0 0 _ [] (dnB _ dnP)
  unfold fX12_least
  have hj29 : ∀ (s0 : Option Nat) (s1 : Int32), jX12_least w x b 29 0 0 [] [.int s1, dnV b s0] (dnB (fX12_least_j29 s0 s1) dnP) := by
    intro s0 s1
    unfold fX12_least_j29
    refine dn_callV0I (pc := 29) [.int s1] s0 kRX12_91 (mX12_tally w x b s0 s1) rfl rfl (Nat.le_of_ble_eq_true rfl) ⟨(Nat.le_of_ble_eq_true rfl), (Nat.le_of_ble_eq_true rfl)⟩ ⟨rfl, rfl, (Nat.le_of_ble_eq_true rfl), (Nat.le_of_ble_eq_true rfl)⟩ dX12_least_29 (fun v1 => ?_)
    exact dn_ret (Nat.le_of_ble_eq_true rfl) (Nat.le_of_ble_eq_true rfl) rfl dX12_least_32
  have hj28 : ∀ (s0 : Option Nat), jX12_least w x b 28 0 0 [] [dnV b s0] (dnB (fX12_least_j28 s0) dnP) := by
    intro s0
    unfold fX12_least_j28
    refine dn_iconst (pc := 28) (v := -1) dX12_least_28 rfl ?_
    exact dn_lv [] rfl (hj29 s0 (-1))
  refine dn_aload_n (pc := 0) r0 0 dX12_least_0 rfl ?_
  refine dn_iload_n (pc := 1) 1 dX12_least_1 rfl ?_
  refine dn_callS0Z (pc := 2) [.int p1]  kRX12_227 (mX12_isKind w x b p1) rfl rfl (Nat.le_of_ble_eq_true rfl) ⟨(Nat.le_of_ble_eq_true rfl), (Nat.le_of_ble_eq_true rfl)⟩ ⟨rfl, rfl, (Nat.le_of_ble_eq_true rfl), (Nat.le_of_ble_eq_true rfl)⟩ dX12_least_2 (fun v2 => ?_)
  refine dn_ifz_eq (pc := 5) 28 dX12_least_5 rfl (fun _ => ?_) (fun _ => ?_)
  · refine dn_iload_n (pc := 8) 2 dX12_least_8 rfl ?_
    refine dn_callS0Z (pc := 9) [.int p2]  kRX12_227 (mX12_isKind w x b p2) rfl rfl (Nat.le_of_ble_eq_true rfl) ⟨(Nat.le_of_ble_eq_true rfl), (Nat.le_of_ble_eq_true rfl)⟩ ⟨rfl, rfl, (Nat.le_of_ble_eq_true rfl), (Nat.le_of_ble_eq_true rfl)⟩ dX12_least_9 (fun v3 => ?_)
    refine dn_ifz_eq (pc := 12) 28 dX12_least_12 rfl (fun _ => ?_) (fun _ => ?_)
    · refine dn_iconst (pc := 15) (v := 1) dX12_least_15 rfl ?_
      refine dn_iload_n (pc := 16) 1 dX12_least_16 rfl ?_
      refine dn_ishl (pc := 17) dX12_least_17 ?_
      refine dn_iconst (pc := 18) (v := 1) dX12_least_18 rfl ?_
      refine dn_iload_n (pc := 19) 2 dX12_least_19 rfl ?_
      refine dn_ishl (pc := 20) dX12_least_20 ?_
      refine dn_ior (pc := 21) dX12_least_21 ?_
      refine dn_callS0I (pc := 22) [.int ((1 <<< (p1 &&& 31)) ||| (1 <<< (p2 &&& 31)))]  kRX12_231 (mX12_leastKind w x b ((1 <<< (p1 &&& 31)) ||| (1 <<< (p2 &&& 31)))) rfl rfl (Nat.le_of_ble_eq_true rfl) ⟨(Nat.le_of_ble_eq_true rfl), (Nat.le_of_ble_eq_true rfl)⟩ ⟨rfl, rfl, (Nat.le_of_ble_eq_true rfl), (Nat.le_of_ble_eq_true rfl)⟩ dX12_least_22 (fun v4 => ?_)
      refine dn_goto (pc := 25) 29 dX12_least_25 rfl ?_
      exact dn_lv [] rfl (hj29 r0 v4)
    · exact dn_lv [] rfl (hj28 r0)
  · exact dn_lv [] rfl (hj28 r0)
abbrev rmX1_isPossible : Room := { frames := 3, cells := 0, slots := 0, locals := 63 }
def fX1_isPossible_j35 (l0 : Option Nat) (l1 : Int32) (l2 : Int32) (s0 : Bool) (s1 : Bool) : dnM ((Int32) ⊕ ((Unit) ⊕ Bool)) :=
  if (dnZ s0) = (dnZ s1) then
  (dnP (.inl (l2 + 1)))
  else
  (dnP (.inr (.inr false)))
def fX1_isPossible_b2 (c0 : Option Nat) (c1 : Int32) (s2 : Int32) : dnM ((Int32) ⊕ ((Unit) ⊕ Bool)) :=
  dnB (dnGI c0 0 3) fun v1 =>
  if v1 ≤ s2 then
  (dnP (.inr (.inl ())))
  else
  (dnB (dnGR c0 0 1) fun v2 =>
  dnB (dnAI v2 100 s2) fun v3 =>
  dnB (fX12_allows v3 c1) fun v4 =>
  dnB (dnGR c0 0 2) fun v5 =>
  dnB (dnAI v5 100 s2) fun v6 =>
  if ¬ v6 = 1 then
  (fX1_isPossible_j35 c0 c1 s2 v4 false)
  else
  (fX1_isPossible_j35 c0 c1 s2 v4 true))
def fX1_isPossible (r0 : Option Nat) (p1 : Int32) : dnM Bool :=
  dnB (dnIt 1000 (fX1_isPossible_b2 r0 p1) 0) fun q_ => q_.elim (fun q2 => dnP true) (fun v_ => dnP v_)
abbrev jX1_isPossible (w : dnWd) (x : dnX) (b : Nat) := dnD w x b (fun _ => True) cX1_isPossible RX1 3 rmX1_isPossible "isPossible" eZ
set_option maxHeartbeats 4000000 in
set_option maxRecDepth 100000 in
theorem mX1_isPossible (w : dnWd) (x : dnX) (b : Nat) (r0 : Option Nat) (p1 : Int32) : dnMt w x b yX1_isPossible cX1_isPossible 3 (some .boolean) rmX1_isPossible eZ [dnV b r0, .int p1] (fX1_isPossible r0 p1) := by
  have hlv : lv_args 0 [dnV b r0, .int p1] = [(0, dnV b r0), (1, .int p1)] := by cases r0 <;> rfl
  refine dn_mt (by decide +kernel) roZ (by cases r0 <;> exact (Nat.le_of_ble_eq_true rfl)) ?_
  rw [hlv]
  refine dn_top ?_
  show jX1_isPossible w x b 0 0 0 _ [] (dnB _ dnP)
  unfold fX1_isPossible
  refine dn_iconst (pc := 0) (v := 0) dX1_isPossible_0 rfl ?_
  refine dn_istore_n (pc := 1) dX1_isPossible_1 (Nat.le_of_ble_eq_true rfl) (dnKp_nb 1 rfl rfl rfl (dnKp_of (lv2 := [(0, dnV b r0)]) [0] rfl rfl)) ?_
  refine dn_assoc ?_
  refine dn_lv [2, 1, 0] (lv2 := (fun s => [(0, dnV b r0), (1, .int p1), (2, .int s)]) 0) rfl ?_
  refine dn_loopR (pc := 2) (body := fX1_isPossible_b2 r0 p1) 46 (fun s => [(0, dnV b r0), (1, .int p1), (2, .int s)]) (fun q => []) (fun s2 K2 E2 hK2 hE2 hR2 => ?_) (dn_rt (Nat.le_of_ble_eq_true rfl) (Nat.le_of_ble_eq_true rfl) (fun _ => rfl)) (fun q2 => ?_) 1000 0
  · unfold fX1_isPossible_b2
    have hj35 : ∀ (l2 : Int32) (s0 : Bool) (s1 : Bool), jX1_isPossible w x b 35 0 0 [(0, dnV b r0), (1, .int p1), (2, .int l2)] [.int (dnZ s1), .int (dnZ s0)] (dnB (fX1_isPossible_j35 r0 p1 l2 s0 s1) (dnKo K2 E2)) := by
      intro l2 s0 s1
      unfold fX1_isPossible_j35
      refine dn_icmp_eq (pc := 35) 40 dX1_isPossible_35 rfl (fun _ => ?_) (fun _ => ?_)
      · refine dn_iinc (pc := 40) (l2 + 1) 2 dX1_isPossible_40 rfl rfl (Nat.le_of_ble_eq_true rfl) (dnKp_nb 1 rfl rfl rfl (dnKp_of (lv2 := [(0, dnV b r0)]) [0] rfl rfl)) ?_
        refine dn_goto (pc := 43) 2 dX1_isPossible_43 rfl ?_
        refine dn_leaf ?_
        exact dn_lv [2, 1, 0] rfl (hK2 (l2 + 1))
      · refine dn_iconst (pc := 38) (v := 0) dX1_isPossible_38 rfl ?_
        refine dn_leaf ?_
        exact hR2 false _ _ _ rfl dX1_isPossible_39
    refine dn_iload_n (pc := 2) 2 dX1_isPossible_2 rfl ?_
    refine dn_aload_n (pc := 3) r0 0 dX1_isPossible_3 rfl ?_
    refine dn_getI (pc := 4) r0 lRX1_18 dX1_isPossible_4 (fun v1 => ?_)
    refine dn_icmp_ge (pc := 7) 46 dX1_isPossible_7 rfl (fun _ => ?_) (fun _ => ?_)
    · refine dn_leaf ?_
      exact dn_lv [] rfl (hE2 ())
    · refine dn_aload_n (pc := 10) r0 0 dX1_isPossible_10 rfl ?_
      refine dn_getR (pc := 11) r0 lRX1_9 dX1_isPossible_11 (fun v2 => ?_)
      refine dn_iload_n (pc := 14) 2 dX1_isPossible_14 rfl ?_
      refine dn_iald (pc := 15) v2 dX1_isPossible_15 (fun v3 => ?_)
      refine dn_iload_n (pc := 16) 1 dX1_isPossible_16 rfl ?_
      refine dn_callSN0Z (pc := 17) [.int v3, .int p1]  kRX1_33 (mX12_allows w x b v3 p1) rfl rfl (Nat.le_of_ble_eq_true rfl) ⟨(Nat.le_of_ble_eq_true rfl), (Nat.le_of_ble_eq_true rfl)⟩ ⟨rfl, rfl, (Nat.le_of_ble_eq_true rfl), (Nat.le_of_ble_eq_true rfl)⟩ dX1_isPossible_17 (fun v4 => ?_)
      refine dn_aload_n (pc := 20) r0 0 dX1_isPossible_20 rfl ?_
      refine dn_getR (pc := 21) r0 lRX1_15 dX1_isPossible_21 (fun v5 => ?_)
      refine dn_iload_n (pc := 24) 2 dX1_isPossible_24 rfl ?_
      refine dn_iald (pc := 25) v5 dX1_isPossible_25 (fun v6 => ?_)
      refine dn_iconst (pc := 26) (v := 1) dX1_isPossible_26 rfl ?_
      refine dn_icmp_ne (pc := 27) 34 dX1_isPossible_27 rfl (fun _ => ?_) (fun _ => ?_)
      · refine dn_iconst (pc := 34) (v := 0) dX1_isPossible_34 rfl ?_
        exact dn_lv [0, 1, 2] rfl (hj35 s2 v4 false)
      · refine dn_iconst (pc := 30) (v := 1) dX1_isPossible_30 rfl ?_
        refine dn_goto (pc := 31) 35 dX1_isPossible_31 rfl ?_
        exact dn_lv [0, 1, 2] rfl (hj35 s2 v4 true)
  · dsimp only [Sum.elim_inl]
    refine dn_iconst (pc := 46) (v := 1) dX1_isPossible_46 rfl ?_
    exact dn_ret (Nat.le_of_ble_eq_true rfl) (Nat.le_of_ble_eq_true rfl) rfl dX1_isPossible_47
abbrev rmX1_possibleKinds : Room := { frames := 4, cells := 0, slots := 0, locals := 85 }
def fX1_possibleKinds_j26 (l0 : Option Nat) (l2 : Int32) (s0 : Int32) (s1 : Int32) : dnM ((Int32 × Int32) ⊕ (Int32)) :=
  dnP (.inl ((s0 ||| s1), (l2 + 1)))
def fX1_possibleKinds_b4 (c0 : Option Nat) (s4 : Int32 × Int32) : dnM ((Int32 × Int32) ⊕ (Int32)) :=
  if 12 ≤ s4.2 then
  (dnP (.inr s4.1))
  else
  (dnB (dnCv c0 0 (fX1_isPossible c0 s4.2)) fun v1 =>
  if v1 = true then
  (fX1_possibleKinds_j26 c0 s4.2 s4.1 (1 <<< (s4.2 &&& 31)))
  else
  (fX1_possibleKinds_j26 c0 s4.2 s4.1 0))
def fX1_possibleKinds (r0 : Option Nat) : dnM Int32 :=
  dnB (dnIt 1000 (fX1_possibleKinds_b4 r0) (0, 0)) fun q4 =>
  dnP q4
abbrev jX1_possibleKinds (w : dnWd) (x : dnX) (b : Nat) := dnD w x b (fun _ => True) cX1_possibleKinds RX1 3 rmX1_possibleKinds "possibleKinds" eI
set_option maxHeartbeats 4000000 in
set_option maxRecDepth 100000 in
theorem mX1_possibleKinds (w : dnWd) (x : dnX) (b : Nat) (r0 : Option Nat) : dnMt w x b yX1_possibleKinds cX1_possibleKinds 3 (some .int) rmX1_possibleKinds eI [dnV b r0] (fX1_possibleKinds r0) := by
  have hlv : lv_args 0 [dnV b r0] = [(0, dnV b r0)] := by cases r0 <;> rfl
  refine dn_mt (by decide +kernel) roI (by cases r0 <;> exact (Nat.le_of_ble_eq_true rfl)) ?_
  rw [hlv]
  refine dn_top ?_
  show jX1_possibleKinds w x b 0 0 0 _ [] (dnB _ dnP)
  unfold fX1_possibleKinds
  refine dn_iconst (pc := 0) (v := 0) dX1_possibleKinds_0 rfl ?_
  refine dn_istore_n (pc := 1) dX1_possibleKinds_1 (Nat.le_of_ble_eq_true rfl) (dnKp_nb 0 rfl (dn_cat b _) rfl (dnKp_of (lv2 := []) [] rfl rfl)) ?_
  refine dn_iconst (pc := 2) (v := 0) dX1_possibleKinds_2 rfl ?_
  refine dn_istore_n (pc := 3) dX1_possibleKinds_3 (Nat.le_of_ble_eq_true rfl) (dnKp_nb 0 rfl rfl rfl (dnKp_of (lv2 := [(0, dnV b r0)]) [1] rfl rfl)) ?_
  refine dn_assoc ?_
  refine dn_lv [2, 1, 0] (lv2 := (fun s => [(0, dnV b r0), (1, .int s.1), (2, .int s.2)]) (0, 0)) rfl ?_
  refine dn_loopE (pc := 4) (body := fX1_possibleKinds_b4 r0) 34 (fun s => [(0, dnV b r0), (1, .int s.1), (2, .int s.2)]) (fun q => [(1, .int q)]) (fun s4 K4 E4 hK4 hE4 => ?_) (fun q4 => ?_) 1000 (0, 0)
  · unfold fX1_possibleKinds_b4
    have hj26 : ∀ (l2 : Int32) (s0 : Int32) (s1 : Int32), jX1_possibleKinds w x b 26 0 0 [(0, dnV b r0), (2, .int l2)] [.int s1, .int s0] (dnB (fX1_possibleKinds_j26 r0 l2 s0 s1) (dnKo K4 E4)) := by
      intro l2 s0 s1
      unfold fX1_possibleKinds_j26
      refine dn_ior (pc := 26) dX1_possibleKinds_26 ?_
      refine dn_istore_n (pc := 27) dX1_possibleKinds_27 (Nat.le_of_ble_eq_true rfl) (dnKp_nb 0 rfl (dn_cat b _) rfl (dnKp_of (lv2 := [(2, .int l2)]) [1] rfl rfl)) ?_
      refine dn_iinc (pc := 28) (l2 + 1) 2 dX1_possibleKinds_28 rfl rfl (Nat.le_of_ble_eq_true rfl) (dnKp_nb 0 rfl rfl rfl (dnKp_of (lv2 := [(0, dnV b r0)]) [1] rfl rfl)) ?_
      refine dn_goto (pc := 31) 4 dX1_possibleKinds_31 rfl ?_
      refine dn_leaf ?_
      exact dn_lv [2, 1, 0] rfl (hK4 ((s0 ||| s1), (l2 + 1)))
    refine dn_iload_n (pc := 4) 2 dX1_possibleKinds_4 rfl ?_
    refine dn_bipush (pc := 5) (v := 12) dX1_possibleKinds_5 rfl ?_
    refine dn_icmp_ge (pc := 7) 34 dX1_possibleKinds_7 rfl (fun _ => ?_) (fun _ => ?_)
    · refine dn_leaf ?_
      exact dn_lv [1] rfl (hE4 s4.1)
    · refine dn_iload_n (pc := 10) 1 dX1_possibleKinds_10 rfl ?_
      refine dn_aload_n (pc := 11) r0 0 dX1_possibleKinds_11 rfl ?_
      refine dn_iload_n (pc := 12) 2 dX1_possibleKinds_12 rfl ?_
      refine dn_callV0Z (pc := 13) [.int s4.2] r0 kRX1_30 (mX1_isPossible w x b r0 s4.2) rfl rfl (Nat.le_of_ble_eq_true rfl) ⟨(Nat.le_of_ble_eq_true rfl), (Nat.le_of_ble_eq_true rfl)⟩ ⟨rfl, rfl, (Nat.le_of_ble_eq_true rfl), (Nat.le_of_ble_eq_true rfl)⟩ dX1_possibleKinds_13 (fun v1 => ?_)
      refine dn_ifz_eq (pc := 16) 25 dX1_possibleKinds_16 rfl (fun _ => ?_) (fun _ => ?_)
      · refine dn_iconst (pc := 19) (v := 1) dX1_possibleKinds_19 rfl ?_
        refine dn_iload_n (pc := 20) 2 dX1_possibleKinds_20 rfl ?_
        refine dn_ishl (pc := 21) dX1_possibleKinds_21 ?_
        refine dn_goto (pc := 22) 26 dX1_possibleKinds_22 rfl ?_
        exact dn_lv [0, 2] rfl (hj26 s4.2 s4.1 (1 <<< (s4.2 &&& 31)))
      · refine dn_iconst (pc := 25) (v := 0) dX1_possibleKinds_25 rfl ?_
        exact dn_lv [0, 2] rfl (hj26 s4.2 s4.1 0)
  · refine dn_iload_n (pc := 34) 0 dX1_possibleKinds_34 rfl ?_
    exact dn_ret (Nat.le_of_ble_eq_true rfl) (Nat.le_of_ble_eq_true rfl) rfl dX1_possibleKinds_35
abbrev rmX12_left : Room := { frames := 5, cells := 0, slots := 0, locals := 107 }
def fX12_left (r0 : Option Nat) : dnM Int32 :=
  dnB (dnGR r0 10 10) fun v1 =>
  dnB (dnCv v1 0 (fX1_possibleKinds v1)) fun v2 =>
  dnP v2
abbrev jX12_left (w : dnWd) (x : dnX) (b : Nat) := dnD w x b (fun _ => True) cX12_left RX12 1 rmX12_left "left" eI
set_option maxHeartbeats 4000000 in
set_option maxRecDepth 100000 in
theorem mX12_left (w : dnWd) (x : dnX) (b : Nat) (r0 : Option Nat) : dnMt w x b yX12_left cX12_left 1 (some .int) rmX12_left eI [dnV b r0] (fX12_left r0) := by
  have hlv : lv_args 0 [dnV b r0] = [(0, dnV b r0)] := by cases r0 <;> rfl
  refine dn_mt (by decide +kernel) roI (by cases r0 <;> exact (Nat.le_of_ble_eq_true rfl)) ?_
  rw [hlv]
  refine dn_top ?_
  show jX12_left w x b 0 0 0 _ [] (dnB _ dnP)
  unfold fX12_left
  refine dn_aload_n (pc := 0) r0 0 dX12_left_0 rfl ?_
  refine dn_getR (pc := 1) r0 lRX12_79 dX12_left_1 (fun v1 => ?_)
  refine dn_callV0I (pc := 4) [] v1 kRX12_247 (mX1_possibleKinds w x b v1) rfl rfl (Nat.le_of_ble_eq_true rfl) ⟨(Nat.le_of_ble_eq_true rfl), (Nat.le_of_ble_eq_true rfl)⟩ ⟨rfl, rfl, (Nat.le_of_ble_eq_true rfl), (Nat.le_of_ble_eq_true rfl)⟩ dX12_left_4 (fun v2 => ?_)
  exact dn_ret (Nat.le_of_ble_eq_true rfl) (Nat.le_of_ble_eq_true rfl) rfl dX12_left_7
abbrev rmX7_rowOccurs : Room := { frames := 3, cells := 0, slots := 0, locals := 66 }
def fX7_rowOccurs_j51 (l0 : Option Nat) (l1 : Option Nat) (l2 : Int32) (l3 : Int32) : dnM ((Int32) ⊕ ((Unit) ⊕ Bool)) :=
  dnP (.inl (l3 + 1))
def fX7_rowOccurs_b2 (c0 : Option Nat) (c1 : Option Nat) (c2 : Int32) (s2 : Int32) : dnM ((Int32) ⊕ ((Unit) ⊕ Bool)) :=
  dnB (dnGI c0 4 2) fun v1 =>
  if v1 ≤ s2 then
  (dnP (.inr (.inl ())))
  else
  (c1.elim
  (dnP (.inr (.inr false)))
  (fun v2 => dnB (dnCv (some v2) 4 (fX5_hasCell (some v2) (c2 + s2))) fun v3 =>
  if v3 = true then
  (dnB (dnGR c0 4 3) fun v4 =>
  dnB (dnAI v4 100 s2) fun v5 =>
  if v5 = 11 then
  (fX7_rowOccurs_j51 c0 (some v2) c2 s2)
  else
  (dnB (dnCv c0 4 (fX5_matches c0 s2 (some v2) (c2 + s2))) fun v6 =>
  if v6 = true then
  (fX7_rowOccurs_j51 c0 (some v2) c2 s2)
  else
  (dnP (.inr (.inr false)))))
  else
  (dnP (.inr (.inr false)))))
def fX7_rowOccurs (r0 : Option Nat) (r1 : Option Nat) (p2 : Int32) : dnM Bool :=
  dnB (dnIt 1000 (fX7_rowOccurs_b2 r0 r1 p2) 0) fun q_ => q_.elim (fun q2 => dnP true) (fun v_ => dnP v_)
abbrev jX7_rowOccurs (w : dnWd) (x : dnX) (b : Nat) := dnD w x b (fun _ => True) cX7_rowOccurs RX7 4 rmX7_rowOccurs "rowOccurs" eZ
set_option maxHeartbeats 4000000 in
set_option maxRecDepth 100000 in
theorem mX7_rowOccurs (w : dnWd) (x : dnX) (b : Nat) (r0 : Option Nat) (r1 : Option Nat) (p2 : Int32) : dnMt w x b yX7_rowOccurs cX7_rowOccurs 4 (some .boolean) rmX7_rowOccurs eZ [dnV b r0, dnV b r1, .int p2] (fX7_rowOccurs r0 r1 p2) := by
  have hlv : lv_args 0 [dnV b r0, dnV b r1, .int p2] = [(0, dnV b r0), (1, dnV b r1), (2, .int p2)] := by cases r0 <;> cases r1 <;> rfl
  refine dn_mt (by decide +kernel) roZ (by cases r0 <;> cases r1 <;> exact (Nat.le_of_ble_eq_true rfl)) ?_
  rw [hlv]
  refine dn_top ?_
  show jX7_rowOccurs w x b 0 0 0 _ [] (dnB _ dnP)
  unfold fX7_rowOccurs
  refine dn_iconst (pc := 0) (v := 0) dX7_rowOccurs_0 rfl ?_
  refine dn_istore_n (pc := 1) dX7_rowOccurs_1 (Nat.le_of_ble_eq_true rfl) (dnKp_nb 2 rfl rfl rfl (dnKp_of (lv2 := [(0, dnV b r0), (1, dnV b r1)]) [0, 1] rfl rfl)) ?_
  refine dn_assoc ?_
  refine dn_lv [2, 3, 1, 0] (lv2 := (fun s => [(0, dnV b r0), (1, dnV b r1), (2, .int p2), (3, .int s)]) 0) rfl ?_
  refine dn_loopR (pc := 2) (body := fX7_rowOccurs_b2 r0 r1 p2) 57 (fun s => [(0, dnV b r0), (1, dnV b r1), (2, .int p2), (3, .int s)]) (fun q => []) (fun s2 K2 E2 hK2 hE2 hR2 => ?_) (dn_rt (Nat.le_of_ble_eq_true rfl) (Nat.le_of_ble_eq_true rfl) (fun _ => rfl)) (fun q2 => ?_) 1000 0
  · unfold fX7_rowOccurs_b2
    have hj51 : ∀ (l3 : Int32), jX7_rowOccurs w x b 51 0 0 [(0, dnV b r0), (1, dnV b r1), (2, .int p2), (3, .int l3)] [] (dnB (fX7_rowOccurs_j51 r0 r1 p2 l3) (dnKo K2 E2)) := by
      intro l3
      unfold fX7_rowOccurs_j51
      refine dn_iinc (pc := 51) (l3 + 1) 3 dX7_rowOccurs_51 rfl rfl (Nat.le_of_ble_eq_true rfl) (dnKp_nb 2 rfl rfl rfl (dnKp_of (lv2 := [(0, dnV b r0), (1, dnV b r1)]) [0, 1] rfl rfl)) ?_
      refine dn_goto (pc := 54) 2 dX7_rowOccurs_54 rfl ?_
      refine dn_leaf ?_
      exact dn_lv [2, 3, 1, 0] rfl (hK2 (l3 + 1))
    refine dn_iload_n (pc := 2) 3 dX7_rowOccurs_2 rfl ?_
    refine dn_aload_n (pc := 3) r0 0 dX7_rowOccurs_3 rfl ?_
    refine dn_getI (pc := 4) r0 lRX7_55 dX7_rowOccurs_4 (fun v1 => ?_)
    refine dn_icmp_ge (pc := 7) 57 dX7_rowOccurs_7 rfl (fun _ => ?_) (fun _ => ?_)
    · refine dn_leaf ?_
      exact dn_lv [] rfl (hE2 ())
    · refine dn_aload_n (pc := 10) r1 1 dX7_rowOccurs_10 rfl ?_
      refine dn_ifnull (pc := 11) r1 24 dX7_rowOccurs_11 rfl (fun e_ => ?_) (fun v2 e_ => ?_)
      · subst e_
        refine dn_iconst (pc := 24) (v := 0) dX7_rowOccurs_24 rfl ?_
        refine dn_leaf ?_
        exact hR2 false _ _ _ rfl dX7_rowOccurs_25
      · subst e_
        refine dn_aload_n (pc := 14) (some v2) 1 dX7_rowOccurs_14 rfl ?_
        refine dn_iload_n (pc := 15) 2 dX7_rowOccurs_15 rfl ?_
        refine dn_iload_n (pc := 16) 3 dX7_rowOccurs_16 rfl ?_
        refine dn_iadd (pc := 17) dX7_rowOccurs_17 ?_
        refine dn_callV0Z (pc := 18) [.int (p2 + s2)] (some v2) kRX7_135 (mX5_hasCell w x b (some v2) (p2 + s2)) rfl rfl (Nat.le_of_ble_eq_true rfl) ⟨(Nat.le_of_ble_eq_true rfl), (Nat.le_of_ble_eq_true rfl)⟩ ⟨rfl, rfl, (Nat.le_of_ble_eq_true rfl), (Nat.le_of_ble_eq_true rfl)⟩ dX7_rowOccurs_18 (fun v3 => ?_)
        refine dn_ifz_ne (pc := 21) 26 dX7_rowOccurs_21 rfl (fun _ => ?_) (fun _ => ?_)
        · refine dn_aload_n (pc := 26) r0 0 dX7_rowOccurs_26 rfl ?_
          refine dn_getR (pc := 27) r0 lRX7_138 dX7_rowOccurs_27 (fun v4 => ?_)
          refine dn_iload_n (pc := 30) 3 dX7_rowOccurs_30 rfl ?_
          refine dn_iald (pc := 31) v4 dX7_rowOccurs_31 (fun v5 => ?_)
          refine dn_bipush (pc := 32) (v := 11) dX7_rowOccurs_32 rfl ?_
          refine dn_icmp_eq (pc := 34) 51 dX7_rowOccurs_34 rfl (fun _ => ?_) (fun _ => ?_)
          · exact dn_lv [0, 1, 2, 3] rfl (hj51 s2)
          · refine dn_aload_n (pc := 37) r0 0 dX7_rowOccurs_37 rfl ?_
            refine dn_iload_n (pc := 38) 3 dX7_rowOccurs_38 rfl ?_
            refine dn_aload_n (pc := 39) (some v2) 1 dX7_rowOccurs_39 rfl ?_
            refine dn_iload_n (pc := 40) 2 dX7_rowOccurs_40 rfl ?_
            refine dn_iload_n (pc := 41) 3 dX7_rowOccurs_41 rfl ?_
            refine dn_iadd (pc := 42) dX7_rowOccurs_42 ?_
            refine dn_callV0Z (pc := 43) [.int s2, dnV b (some v2), .int (p2 + s2)] r0 kRX7_141 (mX5_matches w x b r0 s2 (some v2) (p2 + s2)) rfl rfl (Nat.le_of_ble_eq_true rfl) ⟨(Nat.le_of_ble_eq_true rfl), (Nat.le_of_ble_eq_true rfl)⟩ ⟨rfl, rfl, (Nat.le_of_ble_eq_true rfl), (Nat.le_of_ble_eq_true rfl)⟩ dX7_rowOccurs_43 (fun v6 => ?_)
            refine dn_ifz_ne (pc := 46) 51 dX7_rowOccurs_46 rfl (fun _ => ?_) (fun _ => ?_)
            · exact dn_lv [0, 1, 2, 3] rfl (hj51 s2)
            · refine dn_iconst (pc := 49) (v := 0) dX7_rowOccurs_49 rfl ?_
              refine dn_leaf ?_
              exact hR2 false _ _ _ rfl dX7_rowOccurs_50
        · refine dn_iconst (pc := 24) (v := 0) dX7_rowOccurs_24 rfl ?_
          refine dn_leaf ?_
          exact hR2 false _ _ _ rfl dX7_rowOccurs_25
  · dsimp only [Sum.elim_inl]
    refine dn_iconst (pc := 57) (v := 1) dX7_rowOccurs_57 rfl ?_
    exact dn_ret (Nat.le_of_ble_eq_true rfl) (Nat.le_of_ble_eq_true rfl) rfl dX7_rowOccurs_58
abbrev rmX7_occursAt : Room := { frames := 4, cells := 0, slots := 0, locals := 89 }
def fX7_occursAt_j58 (l0 : Option Nat) (l1 : Int32) (l2 : Int32) (l3 : Int32) (l4 : Int32) (l5 : Int32) : dnM ((Int32) ⊕ ((Unit) ⊕ Bool)) :=
  dnP (.inl (l5 + 1))
def fX7_occursAt_b3 (c0 : Option Nat) (c1 : Int32) (c2 : Int32) (c3 : Int32) (c4 : Int32) (s3 : Int32) : dnM ((Int32) ⊕ ((Unit) ⊕ Bool)) :=
  dnB (dnGR c0 6 0) fun v1 =>
  dnB (dnGR v1 7 0) fun v2 =>
  dnB (dnAI v2 100 c2) fun v3 =>
  if v3 ≤ s3 then
  (dnP (.inr (.inl ())))
  else
  (dnB (dnGR c0 6 0) fun v4 =>
  dnB (dnCv v4 7 (fX9_rowAt v4 c2 s3)) fun v5 =>
  v5.elim
  (fX7_occursAt_j58 c0 c1 c2 c3 c4 s3)
  (fun v6 => dnB (dnGR c0 6 0) fun v7 =>
  dnB (dnCv v7 7 (fX9_rowAt v7 c1 (c3 + s3))) fun v8 =>
  dnB (fX7_rowOccurs (some v6) v8 c4) fun v9 =>
  if v9 = true then
  (fX7_occursAt_j58 c0 c1 c2 c3 c4 s3)
  else
  (dnP (.inr (.inr false)))))
def fX7_occursAt (r0 : Option Nat) (p1 : Int32) (p2 : Int32) (p3 : Int32) (p4 : Int32) : dnM Bool :=
  dnB (dnIt 1000 (fX7_occursAt_b3 r0 p1 p2 p3 p4) 0) fun q_ => q_.elim (fun q3 => dnP true) (fun v_ => dnP v_)
abbrev jX7_occursAt (w : dnWd) (x : dnX) (b : Nat) := dnD w x b (fun _ => True) cX7_occursAt RX7 7 rmX7_occursAt "occursAt" eZ
set_option maxHeartbeats 4000000 in
set_option maxRecDepth 100000 in
theorem mX7_occursAt (w : dnWd) (x : dnX) (b : Nat) (r0 : Option Nat) (p1 : Int32) (p2 : Int32) (p3 : Int32) (p4 : Int32) : dnMt w x b yX7_occursAt cX7_occursAt 7 (some .boolean) rmX7_occursAt eZ [dnV b r0, .int p1, .int p2, .int p3, .int p4] (fX7_occursAt r0 p1 p2 p3 p4) := by
  have hlv : lv_args 0 [dnV b r0, .int p1, .int p2, .int p3, .int p4] = [(0, dnV b r0), (1, .int p1), (2, .int p2), (3, .int p3), (4, .int p4)] := by cases r0 <;> rfl
  refine dn_mt (by decide +kernel) roZ (by cases r0 <;> exact (Nat.le_of_ble_eq_true rfl)) ?_
  rw [hlv]
  refine dn_top ?_
  show jX7_occursAt w x b 0 0 0 _ [] (dnB _ dnP)
  unfold fX7_occursAt
  refine dn_iconst (pc := 0) (v := 0) dX7_occursAt_0 rfl ?_
  refine dn_istore (pc := 1) dX7_occursAt_1 (Nat.le_of_ble_eq_true rfl) (dnKp_nb 4 rfl rfl rfl (dnKp_of (lv2 := [(0, dnV b r0), (1, .int p1), (2, .int p2), (3, .int p3)]) [0, 1, 2, 3] rfl rfl)) ?_
  refine dn_assoc ?_
  refine dn_lv [2, 3, 4, 5, 1, 0] (lv2 := (fun s => [(0, dnV b r0), (1, .int p1), (2, .int p2), (3, .int p3), (4, .int p4), (5, .int s)]) 0) rfl ?_
  refine dn_loopR (pc := 3) (body := fX7_occursAt_b3 r0 p1 p2 p3 p4) 64 (fun s => [(0, dnV b r0), (1, .int p1), (2, .int p2), (3, .int p3), (4, .int p4), (5, .int s)]) (fun q => []) (fun s3 K3 E3 hK3 hE3 hR3 => ?_) (dn_rt (Nat.le_of_ble_eq_true rfl) (Nat.le_of_ble_eq_true rfl) (fun _ => rfl)) (fun q3 => ?_) 1000 0
  · unfold fX7_occursAt_b3
    have hj58 : ∀ (l5 : Int32), jX7_occursAt w x b 58 0 0 [(0, dnV b r0), (1, .int p1), (2, .int p2), (3, .int p3), (4, .int p4), (5, .int l5)] [] (dnB (fX7_occursAt_j58 r0 p1 p2 p3 p4 l5) (dnKo K3 E3)) := by
      intro l5
      unfold fX7_occursAt_j58
      refine dn_iinc (pc := 58) (l5 + 1) 5 dX7_occursAt_58 rfl rfl (Nat.le_of_ble_eq_true rfl) (dnKp_nb 4 rfl rfl rfl (dnKp_of (lv2 := [(0, dnV b r0), (1, .int p1), (2, .int p2), (3, .int p3)]) [0, 1, 2, 3] rfl rfl)) ?_
      refine dn_goto (pc := 61) 3 dX7_occursAt_61 rfl ?_
      refine dn_leaf ?_
      exact dn_lv [2, 3, 4, 5, 1, 0] rfl (hK3 (l5 + 1))
    refine dn_iload (pc := 3) 5 dX7_occursAt_3 rfl ?_
    refine dn_aload_n (pc := 5) r0 0 dX7_occursAt_5 rfl ?_
    refine dn_getR (pc := 6) r0 lRX7_21 dX7_occursAt_6 (fun v1 => ?_)
    refine dn_getR (pc := 9) v1 lRX7_43 dX7_occursAt_9 (fun v2 => ?_)
    refine dn_iload_n (pc := 12) 2 dX7_occursAt_12 rfl ?_
    refine dn_iald (pc := 13) v2 dX7_occursAt_13 (fun v3 => ?_)
    refine dn_icmp_ge (pc := 14) 64 dX7_occursAt_14 rfl (fun _ => ?_) (fun _ => ?_)
    · refine dn_leaf ?_
      exact dn_lv [] rfl (hE3 ())
    · refine dn_aload_n (pc := 17) r0 0 dX7_occursAt_17 rfl ?_
      refine dn_getR (pc := 18) r0 lRX7_21 dX7_occursAt_18 (fun v4 => ?_)
      refine dn_iload_n (pc := 21) 2 dX7_occursAt_21 rfl ?_
      refine dn_iload (pc := 22) 5 dX7_occursAt_22 rfl ?_
      refine dn_callV0R (pc := 24) [.int p2, .int s3] v4 kRX7_47 (mX9_rowAt w x b v4 p2 s3) rfl rfl (Nat.le_of_ble_eq_true rfl) ⟨(Nat.le_of_ble_eq_true rfl), (Nat.le_of_ble_eq_true rfl)⟩ ⟨rfl, rfl, (Nat.le_of_ble_eq_true rfl), (Nat.le_of_ble_eq_true rfl)⟩ dX7_occursAt_24 (fun v5 => ?_)
      refine dn_astore (pc := 27) v5 dX7_occursAt_27 (Nat.le_of_ble_eq_true rfl) (dnKp_nb 5 rfl rfl rfl (dnKp_of (lv2 := [(0, dnV b r0), (1, .int p1), (2, .int p2), (3, .int p3), (4, .int p4)]) [0, 1, 2, 3, 4] rfl rfl)) ?_
      refine dn_aload (pc := 29) v5 0 dX7_occursAt_29 rfl ?_
      refine dn_ifnull (pc := 31) v5 58 dX7_occursAt_31 rfl (fun e_ => ?_) (fun v6 e_ => ?_)
      · subst e_
        exact dn_lv [2, 3, 4, 5, 6, 1] rfl (hj58 s3)
      · subst e_
        refine dn_aload (pc := 34) (some v6) 0 dX7_occursAt_34 rfl ?_
        refine dn_aload_n (pc := 36) r0 2 dX7_occursAt_36 rfl ?_
        refine dn_getR (pc := 37) r0 lRX7_21 dX7_occursAt_37 (fun v7 => ?_)
        refine dn_iload_n (pc := 40) 3 dX7_occursAt_40 rfl ?_
        refine dn_iload_n (pc := 41) 5 dX7_occursAt_41 rfl ?_
        refine dn_iload (pc := 42) 1 dX7_occursAt_42 rfl ?_
        refine dn_iadd (pc := 44) dX7_occursAt_44 ?_
        refine dn_callV0R (pc := 45) [.int p1, .int (p3 + s3)] v7 kRX7_47 (mX9_rowAt w x b v7 p1 (p3 + s3)) rfl rfl (Nat.le_of_ble_eq_true rfl) ⟨(Nat.le_of_ble_eq_true rfl), (Nat.le_of_ble_eq_true rfl)⟩ ⟨rfl, rfl, (Nat.le_of_ble_eq_true rfl), (Nat.le_of_ble_eq_true rfl)⟩ dX7_occursAt_45 (fun v8 => ?_)
        refine dn_iload (pc := 48) 6 dX7_occursAt_48 rfl ?_
        refine dn_callS0Z (pc := 50) [dnV b (some v6), dnV b v8, .int p4]  kRX7_131 (mX7_rowOccurs w x b (some v6) v8 p4) rfl rfl (Nat.le_of_ble_eq_true rfl) ⟨(Nat.le_of_ble_eq_true rfl), (Nat.le_of_ble_eq_true rfl)⟩ ⟨rfl, rfl, (Nat.le_of_ble_eq_true rfl), (Nat.le_of_ble_eq_true rfl)⟩ dX7_occursAt_50 (fun v9 => ?_)
        refine dn_ifz_ne (pc := 53) 58 dX7_occursAt_53 rfl (fun _ => ?_) (fun _ => ?_)
        · exact dn_lv [2, 3, 4, 5, 6, 1] rfl (hj58 s3)
        · refine dn_iconst (pc := 56) (v := 0) dX7_occursAt_56 rfl ?_
          refine dn_leaf ?_
          exact hR3 false _ _ _ rfl dX7_occursAt_57
  · dsimp only [Sum.elim_inl]
    refine dn_iconst (pc := 64) (v := 1) dX7_occursAt_64 rfl ?_
    exact dn_ret (Nat.le_of_ble_eq_true rfl) (Nat.le_of_ble_eq_true rfl) rfl dX7_occursAt_65
abbrev rmX7_findGrid : Room := { frames := 5, cells := 0, slots := 0, locals := 115 }
def fX7_findGrid_j128 (l0 : Option Nat) (l1 : Int32) (l2 : Int32) (l3 : Int32) (l4 : Int32) (l5 : Int32) (l6 : Int32) (l7 : Int32) : dnM ((Int32 × Int32 × Int32) ⊕ (Int32 × Int32)) :=
  dnP (.inl (l4, l5, (l7 + 1)))
def fX7_findGrid_j123 (l0 : Option Nat) (l1 : Int32) (l2 : Int32) (l3 : Int32) (l4 : Int32) (l6 : Int32) (l7 : Int32) (s0 : Int32) : dnM ((Int32 × Int32 × Int32) ⊕ (Int32 × Int32)) :=
  fX7_findGrid_j128 l0 l1 l2 l3 (l4 + 1) s0 l6 l7
def fX7_findGrid_b84 (c0 : Option Nat) (c1 : Int32) (c2 : Int32) (c3 : Int32) (c6 : Int32) (s84 : Int32 × Int32 × Int32) : dnM ((Int32 × Int32 × Int32) ⊕ (Int32 × Int32)) :=
  if 12 ≤ s84.2.2 then
  (dnP (.inr (s84.1, s84.2.1)))
  else
  (dnB (dnCv c0 6 (fX7_occursAt c0 c1 c2 c6 s84.2.2)) fun v15 =>
  if v15 = true then
  (if ¬ s84.1 = c3 then
  (fX7_findGrid_j123 c0 c1 c2 c3 s84.1 c6 s84.2.2 s84.2.1)
  else
  (fX7_findGrid_j123 c0 c1 c2 c3 s84.1 c6 s84.2.2 ((100 * c6) + s84.2.2)))
  else
  (fX7_findGrid_j128 c0 c1 c2 c3 s84.1 s84.2.1 c6 s84.2.2))
def fX7_findGrid_b57 (c0 : Option Nat) (c1 : Int32) (c2 : Int32) (c3 : Int32) (s57 : Int32 × Int32 × Int32) : dnM ((Int32 × Int32 × Int32) ⊕ (Int32 × Int32)) :=
  dnB (dnGR c0 6 0) fun v9 =>
  dnB (dnGR v9 7 0) fun v10 =>
  dnB (dnAI v10 100 c1) fun v11 =>
  dnB (dnGR c0 6 0) fun v12 =>
  dnB (dnGR v12 7 0) fun v13 =>
  dnB (dnAI v13 100 c2) fun v14 =>
  if (v11 - v14) < s57.2.2 then
  (dnP (.inr (s57.1, s57.2.1)))
  else
  (dnB (dnIt 1000 (fX7_findGrid_b84 c0 c1 c2 c3 s57.2.2) (s57.1, s57.2.1, 0)) fun q84 =>
  dnP (.inl (q84.1, q84.2, (s57.2.2 + 1))))
def fX7_findGrid (r0 : Option Nat) (p1 : Int32) (p2 : Int32) (p3 : Int32) : dnM Int32 :=
  dnB (fX12_isGrid p1) fun v1 =>
  if v1 = true then
  (dnB (fX12_isGrid p2) fun v2 =>
  if v2 = true then
  (if 0 ≤ p3 then
  (dnB (dnGR r0 6 0) fun v3 =>
  dnB (dnGR v3 7 0) fun v4 =>
  dnB (dnAI v4 100 p1) fun v5 =>
  if v5 < 0 then
  (dnP (-2))
  else
  (dnB (dnGR r0 6 0) fun v6 =>
  dnB (dnGR v6 7 0) fun v7 =>
  dnB (dnAI v7 100 p2) fun v8 =>
  if 0 ≤ v8 then
  (dnB (dnIt 1000 (fX7_findGrid_b57 r0 p1 p2 p3) (0, (-9), 0)) fun q57 =>
  if q57.2 = (-9) then
  (dnP q57.2)
  else
  (dnB (dnGR r0 6 1) fun v16 =>
  dnB (dnPL v16 1 0 ((q57.1 : Int32).toInt64)) fun _ =>
  dnP q57.2))
  else
  (dnP (-2))))
  else
  (dnP (-1)))
  else
  (dnP (-1)))
  else
  (dnP (-1))
abbrev jX7_findGrid (w : dnWd) (x : dnX) (b : Nat) := dnD w x b (fun _ => True) cX7_findGrid RX7 8 rmX7_findGrid "findGrid" eI
set_option maxHeartbeats 4000000 in
set_option maxRecDepth 100000 in
theorem mX7_findGrid (w : dnWd) (x : dnX) (b : Nat) (r0 : Option Nat) (p1 : Int32) (p2 : Int32) (p3 : Int32) : dnMt w x b yX7_findGrid cX7_findGrid 8 (some .int) rmX7_findGrid eI [dnV b r0, .int p1, .int p2, .int p3] (fX7_findGrid r0 p1 p2 p3) := by
  have hlv : lv_args 0 [dnV b r0, .int p1, .int p2, .int p3] = [(0, dnV b r0), (1, .int p1), (2, .int p2), (3, .int p3)] := by cases r0 <;> rfl
  refine dn_mt (by decide +kernel) roI (by cases r0 <;> exact (Nat.le_of_ble_eq_true rfl)) ?_
  rw [hlv]
  refine dn_top ?_
  show jX7_findGrid w x b 0 0 0 _ [] (dnB _ dnP)
  unfold fX7_findGrid
  refine dn_iload_n (pc := 0) 1 dX7_findGrid_0 rfl ?_
  refine dn_callSN0Z (pc := 1) [.int p1]  kRX7_124 (mX12_isGrid w x b p1) rfl rfl (Nat.le_of_ble_eq_true rfl) ⟨(Nat.le_of_ble_eq_true rfl), (Nat.le_of_ble_eq_true rfl)⟩ ⟨rfl, rfl, (Nat.le_of_ble_eq_true rfl), (Nat.le_of_ble_eq_true rfl)⟩ dX7_findGrid_1 (fun v1 => ?_)
  refine dn_ifz_eq (pc := 4) 18 dX7_findGrid_4 rfl (fun _ => ?_) (fun _ => ?_)
  · refine dn_iload_n (pc := 7) 2 dX7_findGrid_7 rfl ?_
    refine dn_callSN0Z (pc := 8) [.int p2]  kRX7_124 (mX12_isGrid w x b p2) rfl rfl (Nat.le_of_ble_eq_true rfl) ⟨(Nat.le_of_ble_eq_true rfl), (Nat.le_of_ble_eq_true rfl)⟩ ⟨rfl, rfl, (Nat.le_of_ble_eq_true rfl), (Nat.le_of_ble_eq_true rfl)⟩ dX7_findGrid_8 (fun v2 => ?_)
    refine dn_ifz_eq (pc := 11) 18 dX7_findGrid_11 rfl (fun _ => ?_) (fun _ => ?_)
    · refine dn_iload_n (pc := 14) 3 dX7_findGrid_14 rfl ?_
      refine dn_if_ge (pc := 15) 20 dX7_findGrid_15 rfl (fun _ => ?_) (fun _ => ?_)
      · refine dn_aload_n (pc := 20) r0 0 dX7_findGrid_20 rfl ?_
        refine dn_getR (pc := 21) r0 lRX7_21 dX7_findGrid_21 (fun v3 => ?_)
        refine dn_getR (pc := 24) v3 lRX7_43 dX7_findGrid_24 (fun v4 => ?_)
        refine dn_iload_n (pc := 27) 1 dX7_findGrid_27 rfl ?_
        refine dn_iald (pc := 28) v4 dX7_findGrid_28 (fun v5 => ?_)
        refine dn_if_lt (pc := 29) 44 dX7_findGrid_29 rfl (fun _ => ?_) (fun _ => ?_)
        · refine dn_bipush (pc := 44) (v := -2) dX7_findGrid_44 rfl ?_
          exact dn_ret (Nat.le_of_ble_eq_true rfl) (Nat.le_of_ble_eq_true rfl) rfl dX7_findGrid_46
        · refine dn_aload_n (pc := 32) r0 0 dX7_findGrid_32 rfl ?_
          refine dn_getR (pc := 33) r0 lRX7_21 dX7_findGrid_33 (fun v6 => ?_)
          refine dn_getR (pc := 36) v6 lRX7_43 dX7_findGrid_36 (fun v7 => ?_)
          refine dn_iload_n (pc := 39) 2 dX7_findGrid_39 rfl ?_
          refine dn_iald (pc := 40) v7 dX7_findGrid_40 (fun v8 => ?_)
          refine dn_if_ge (pc := 41) 47 dX7_findGrid_41 rfl (fun _ => ?_) (fun _ => ?_)
          · refine dn_iconst (pc := 47) (v := 0) dX7_findGrid_47 rfl ?_
            refine dn_istore (pc := 48) dX7_findGrid_48 (Nat.le_of_ble_eq_true rfl) (dnKp_nb 3 rfl rfl rfl (dnKp_of (lv2 := [(0, dnV b r0), (1, .int p1), (2, .int p2)]) [0, 1, 2] rfl rfl)) ?_
            refine dn_bipush (pc := 50) (v := -9) dX7_findGrid_50 rfl ?_
            refine dn_istore (pc := 52) dX7_findGrid_52 (Nat.le_of_ble_eq_true rfl) (dnKp_nb 0 rfl rfl rfl (dnKp_of (lv2 := [(3, .int p3), (0, dnV b r0), (1, .int p1), (2, .int p2)]) [1, 2, 3, 4] rfl rfl)) ?_
            refine dn_iconst (pc := 54) (v := 0) dX7_findGrid_54 rfl ?_
            refine dn_istore (pc := 55) dX7_findGrid_55 (Nat.le_of_ble_eq_true rfl) (dnKp_nb 0 rfl rfl rfl (dnKp_of (lv2 := [(4, .int 0), (3, .int p3), (0, dnV b r0), (1, .int p1), (2, .int p2)]) [1, 2, 3, 4, 5] rfl rfl)) ?_
            refine dn_assoc ?_
            refine dn_lv [4, 5, 6, 3, 2, 1, 0] (lv2 := (fun s => [(0, dnV b r0), (1, .int p1), (2, .int p2), (3, .int p3), (4, .int s.1), (5, .int s.2.1), (6, .int s.2.2)]) (0, (-9), 0)) rfl ?_
            refine dn_loopE (pc := 57) (body := fX7_findGrid_b57 r0 p1 p2 p3) 140 (fun s => [(0, dnV b r0), (1, .int p1), (2, .int p2), (3, .int p3), (4, .int s.1), (5, .int s.2.1), (6, .int s.2.2)]) (fun q => [(0, dnV b r0), (4, .int q.1), (5, .int q.2)]) (fun s57 K57 E57 hK57 hE57 => ?_) (fun q57 => ?_) 1000 (0, (-9), 0)
            · unfold fX7_findGrid_b57
              refine dn_iload (pc := 57) 6 dX7_findGrid_57 rfl ?_
              refine dn_aload_n (pc := 59) r0 0 dX7_findGrid_59 rfl ?_
              refine dn_getR (pc := 60) r0 lRX7_21 dX7_findGrid_60 (fun v9 => ?_)
              refine dn_getR (pc := 63) v9 lRX7_43 dX7_findGrid_63 (fun v10 => ?_)
              refine dn_iload_n (pc := 66) 1 dX7_findGrid_66 rfl ?_
              refine dn_iald (pc := 67) v10 dX7_findGrid_67 (fun v11 => ?_)
              refine dn_aload_n (pc := 68) r0 0 dX7_findGrid_68 rfl ?_
              refine dn_getR (pc := 69) r0 lRX7_21 dX7_findGrid_69 (fun v12 => ?_)
              refine dn_getR (pc := 72) v12 lRX7_43 dX7_findGrid_72 (fun v13 => ?_)
              refine dn_iload_n (pc := 75) 2 dX7_findGrid_75 rfl ?_
              refine dn_iald (pc := 76) v13 dX7_findGrid_76 (fun v14 => ?_)
              refine dn_isub (pc := 77) dX7_findGrid_77 ?_
              refine dn_icmp_gt (pc := 78) 140 dX7_findGrid_78 rfl (fun _ => ?_) (fun _ => ?_)
              · refine dn_leaf ?_
                exact dn_lv [0, 4, 5] rfl (hE57 (s57.1, s57.2.1))
              · refine dn_iconst (pc := 81) (v := 0) dX7_findGrid_81 rfl ?_
                refine dn_istore (pc := 82) dX7_findGrid_82 (Nat.le_of_ble_eq_true rfl) (dnKp_nb 6 rfl rfl rfl (dnKp_of (lv2 := [(0, dnV b r0), (1, .int p1), (2, .int p2), (3, .int p3), (4, .int s57.1), (5, .int s57.2.1)]) [0, 1, 2, 3, 4, 5] rfl rfl)) ?_
                refine dn_assoc ?_
                refine dn_lv [2, 3, 4, 5, 6, 7, 1, 0] (lv2 := (fun s => [(0, dnV b r0), (1, .int p1), (2, .int p2), (3, .int p3), (4, .int s.1), (5, .int s.2.1), (6, .int s57.2.2), (7, .int s.2.2)]) (s57.1, s57.2.1, 0)) rfl ?_
                refine dn_loopE (pc := 84) (body := fX7_findGrid_b84 r0 p1 p2 p3 s57.2.2) 134 (fun s => [(0, dnV b r0), (1, .int p1), (2, .int p2), (3, .int p3), (4, .int s.1), (5, .int s.2.1), (6, .int s57.2.2), (7, .int s.2.2)]) (fun q => [(0, dnV b r0), (1, .int p1), (2, .int p2), (3, .int p3), (4, .int q.1), (5, .int q.2), (6, .int s57.2.2)]) (fun s84 K84 E84 hK84 hE84 => ?_) (fun q84 => ?_) 1000 (s57.1, s57.2.1, 0)
                · unfold fX7_findGrid_b84
                  have hj128 : ∀ (l4 : Int32) (l5 : Int32) (l7 : Int32), jX7_findGrid w x b 128 0 0 [(0, dnV b r0), (1, .int p1), (2, .int p2), (3, .int p3), (4, .int l4), (5, .int l5), (6, .int s57.2.2), (7, .int l7)] [] (dnB (fX7_findGrid_j128 r0 p1 p2 p3 l4 l5 s57.2.2 l7) (dnKo K84 E84)) := by
                    intro l4 l5 l7
                    unfold fX7_findGrid_j128
                    refine dn_iinc (pc := 128) (l7 + 1) 7 dX7_findGrid_128 rfl rfl (Nat.le_of_ble_eq_true rfl) (dnKp_nb 6 rfl rfl rfl (dnKp_of (lv2 := [(0, dnV b r0), (1, .int p1), (2, .int p2), (3, .int p3), (4, .int l4), (5, .int l5)]) [0, 1, 2, 3, 4, 5] rfl rfl)) ?_
                    refine dn_goto (pc := 131) 84 dX7_findGrid_131 rfl ?_
                    refine dn_leaf ?_
                    exact dn_lv [2, 3, 4, 5, 6, 7, 1, 0] rfl (hK84 (l4, l5, (l7 + 1)))
                  have hj123 : ∀ (l4 : Int32) (l7 : Int32) (s0 : Int32), jX7_findGrid w x b 123 0 0 [(0, dnV b r0), (1, .int p1), (2, .int p2), (3, .int p3), (4, .int l4), (6, .int s57.2.2), (7, .int l7)] [.int s0] (dnB (fX7_findGrid_j123 r0 p1 p2 p3 l4 s57.2.2 l7 s0) (dnKo K84 E84)) := by
                    intro l4 l7 s0
                    unfold fX7_findGrid_j123
                    refine dn_istore (pc := 123) dX7_findGrid_123 (Nat.le_of_ble_eq_true rfl) (dnKp_nb 4 rfl rfl rfl (dnKp_of (lv2 := [(0, dnV b r0), (1, .int p1), (2, .int p2), (3, .int p3), (6, .int s57.2.2), (7, .int l7)]) [0, 1, 2, 3, 5, 6] rfl rfl)) ?_
                    refine dn_iinc (pc := 125) (l4 + 1) 1 dX7_findGrid_125 rfl rfl (Nat.le_of_ble_eq_true rfl) (dnKp_nb 5 rfl rfl rfl (dnKp_of (lv2 := [(5, .int s0), (0, dnV b r0), (1, .int p1), (2, .int p2), (6, .int s57.2.2), (7, .int l7)]) [0, 2, 3, 4, 6, 7] rfl rfl)) ?_
                    exact dn_lv [3, 4, 5, 1, 0, 2, 6, 7] rfl (hj128 (l4 + 1) s0 l7)
                  refine dn_iload (pc := 84) 7 dX7_findGrid_84 rfl ?_
                  refine dn_bipush (pc := 86) (v := 12) dX7_findGrid_86 rfl ?_
                  refine dn_icmp_ge (pc := 88) 134 dX7_findGrid_88 rfl (fun _ => ?_) (fun _ => ?_)
                  · refine dn_leaf ?_
                    exact dn_lv [0, 1, 2, 3, 4, 5, 6] rfl (hE84 (s84.1, s84.2.1))
                  · refine dn_aload_n (pc := 91) r0 0 dX7_findGrid_91 rfl ?_
                    refine dn_iload_n (pc := 92) 1 dX7_findGrid_92 rfl ?_
                    refine dn_iload_n (pc := 93) 2 dX7_findGrid_93 rfl ?_
                    refine dn_iload (pc := 94) 6 dX7_findGrid_94 rfl ?_
                    refine dn_iload (pc := 96) 7 dX7_findGrid_96 rfl ?_
                    refine dn_callV0Z (pc := 98) [.int p1, .int p2, .int s57.2.2, .int s84.2.2] r0 kRX7_127 (mX7_occursAt w x b r0 p1 p2 s57.2.2 s84.2.2) rfl rfl (Nat.le_of_ble_eq_true rfl) ⟨(Nat.le_of_ble_eq_true rfl), (Nat.le_of_ble_eq_true rfl)⟩ ⟨rfl, rfl, (Nat.le_of_ble_eq_true rfl), (Nat.le_of_ble_eq_true rfl)⟩ dX7_findGrid_98 (fun v15 => ?_)
                    refine dn_ifz_eq (pc := 101) 128 dX7_findGrid_101 rfl (fun _ => ?_) (fun _ => ?_)
                    · refine dn_iload (pc := 104) 4 dX7_findGrid_104 rfl ?_
                      refine dn_iload_n (pc := 106) 3 dX7_findGrid_106 rfl ?_
                      refine dn_icmp_ne (pc := 107) 121 dX7_findGrid_107 rfl (fun _ => ?_) (fun _ => ?_)
                      · refine dn_iload (pc := 121) 5 dX7_findGrid_121 rfl ?_
                        exact dn_lv [0, 1, 2, 3, 4, 6, 7] rfl (hj123 s84.1 s84.2.2 s84.2.1)
                      · refine dn_bipush (pc := 110) (v := 100) dX7_findGrid_110 rfl ?_
                        refine dn_iload (pc := 112) 6 dX7_findGrid_112 rfl ?_
                        refine dn_imul (pc := 114) dX7_findGrid_114 ?_
                        refine dn_iload (pc := 115) 7 dX7_findGrid_115 rfl ?_
                        refine dn_iadd (pc := 117) dX7_findGrid_117 ?_
                        refine dn_goto (pc := 118) 123 dX7_findGrid_118 rfl ?_
                        exact dn_lv [0, 1, 2, 3, 4, 6, 7] rfl (hj123 s84.1 s84.2.2 ((100 * s57.2.2) + s84.2.2))
                    · exact dn_lv [0, 1, 2, 3, 4, 5, 6, 7] rfl (hj128 s84.1 s84.2.1 s84.2.2)
                · refine dn_iinc (pc := 134) (s57.2.2 + 1) 6 dX7_findGrid_134 rfl rfl (Nat.le_of_ble_eq_true rfl) (dnKp_nb 5 rfl rfl rfl (dnKp_of (lv2 := [(0, dnV b r0), (1, .int p1), (2, .int p2), (3, .int p3), (4, .int q84.1)]) [0, 1, 2, 3, 4] rfl rfl)) ?_
                  refine dn_goto (pc := 137) 57 dX7_findGrid_137 rfl ?_
                  refine dn_leaf ?_
                  exact dn_lv [2, 3, 4, 5, 6, 1, 0] rfl (hK57 (q84.1, q84.2, (s57.2.2 + 1)))
            · refine dn_iload (pc := 140) 2 dX7_findGrid_140 rfl ?_
              refine dn_bipush (pc := 142) (v := -9) dX7_findGrid_142 rfl ?_
              refine dn_icmp_eq (pc := 144) 157 dX7_findGrid_144 rfl (fun _ => ?_) (fun _ => ?_)
              · refine dn_iload (pc := 157) 2 dX7_findGrid_157 rfl ?_
                exact dn_ret (Nat.le_of_ble_eq_true rfl) (Nat.le_of_ble_eq_true rfl) rfl dX7_findGrid_159
              · refine dn_aload_n (pc := 147) r0 0 dX7_findGrid_147 rfl ?_
                refine dn_getR (pc := 148) r0 lRX7_25 dX7_findGrid_148 (fun v16 => ?_)
                refine dn_iload (pc := 151) 1 dX7_findGrid_151 rfl ?_
                refine dn_i2l (pc := 153) dX7_findGrid_153 ?_
                refine dn_putL (pc := 154) v16 lRX7_88 dX7_findGrid_154 ?_
                refine dn_iload (pc := 157) 2 dX7_findGrid_157 rfl ?_
                exact dn_ret (Nat.le_of_ble_eq_true rfl) (Nat.le_of_ble_eq_true rfl) rfl dX7_findGrid_159
          · refine dn_bipush (pc := 44) (v := -2) dX7_findGrid_44 rfl ?_
            exact dn_ret (Nat.le_of_ble_eq_true rfl) (Nat.le_of_ble_eq_true rfl) rfl dX7_findGrid_46
      · refine dn_iconst (pc := 18) (v := -1) dX7_findGrid_18 rfl ?_
        exact dn_ret (Nat.le_of_ble_eq_true rfl) (Nat.le_of_ble_eq_true rfl) rfl dX7_findGrid_19
    · refine dn_iconst (pc := 18) (v := -1) dX7_findGrid_18 rfl ?_
      exact dn_ret (Nat.le_of_ble_eq_true rfl) (Nat.le_of_ble_eq_true rfl) rfl dX7_findGrid_19
  · refine dn_iconst (pc := 18) (v := -1) dX7_findGrid_18 rfl ?_
    exact dn_ret (Nat.le_of_ble_eq_true rfl) (Nat.le_of_ble_eq_true rfl) rfl dX7_findGrid_19
abbrev rmX12_lies : Room := { frames := 6, cells := 0, slots := 0, locals := 142 }
def fX12_lies (r0 : Option Nat) (p1 : Int32) (p2 : Int32) (p3 : Int32) : dnM Int32 :=
  dnB (dnGR r0 10 7) fun v1 =>
  dnB (dnCv v1 6 (fX7_findGrid v1 p1 p2 p3)) fun v2 =>
  dnB (dnCv r0 10 (fX12_tally r0 v2)) fun v3 =>
  dnP v3
abbrev jX12_lies (w : dnWd) (x : dnX) (b : Nat) := dnD w x b (fun _ => True) cX12_lies RX12 4 rmX12_lies "lies" eI
set_option maxHeartbeats 4000000 in
set_option maxRecDepth 100000 in
theorem mX12_lies (w : dnWd) (x : dnX) (b : Nat) (r0 : Option Nat) (p1 : Int32) (p2 : Int32) (p3 : Int32) : dnMt w x b yX12_lies cX12_lies 4 (some .int) rmX12_lies eI [dnV b r0, .int p1, .int p2, .int p3] (fX12_lies r0 p1 p2 p3) := by
  have hlv : lv_args 0 [dnV b r0, .int p1, .int p2, .int p3] = [(0, dnV b r0), (1, .int p1), (2, .int p2), (3, .int p3)] := by cases r0 <;> rfl
  refine dn_mt (by decide +kernel) roI (by cases r0 <;> exact (Nat.le_of_ble_eq_true rfl)) ?_
  rw [hlv]
  refine dn_top ?_
  show jX12_lies w x b 0 0 0 _ [] (dnB _ dnP)
  unfold fX12_lies
  refine dn_aload_n (pc := 0) r0 0 dX12_lies_0 rfl ?_
  refine dn_aload_n (pc := 1) r0 0 dX12_lies_1 rfl ?_
  refine dn_getR (pc := 2) r0 lRX12_56 dX12_lies_2 (fun v1 => ?_)
  refine dn_iload_n (pc := 5) 1 dX12_lies_5 rfl ?_
  refine dn_iload_n (pc := 6) 2 dX12_lies_6 rfl ?_
  refine dn_iload_n (pc := 7) 3 dX12_lies_7 rfl ?_
  refine dn_callV0I (pc := 8) [.int p1, .int p2, .int p3] v1 kRX12_203 (mX7_findGrid w x b v1 p1 p2 p3) rfl rfl (Nat.le_of_ble_eq_true rfl) ⟨(Nat.le_of_ble_eq_true rfl), (Nat.le_of_ble_eq_true rfl)⟩ ⟨rfl, rfl, (Nat.le_of_ble_eq_true rfl), (Nat.le_of_ble_eq_true rfl)⟩ dX12_lies_8 (fun v2 => ?_)
  refine dn_callV0I (pc := 11) [.int v2] r0 kRX12_91 (mX12_tally w x b r0 v2) rfl rfl (Nat.le_of_ble_eq_true rfl) ⟨(Nat.le_of_ble_eq_true rfl), (Nat.le_of_ble_eq_true rfl)⟩ ⟨rfl, rfl, (Nat.le_of_ble_eq_true rfl), (Nat.le_of_ble_eq_true rfl)⟩ dX12_lies_11 (fun v3 => ?_)
  exact dn_ret (Nat.le_of_ble_eq_true rfl) (Nat.le_of_ble_eq_true rfl) rfl dX12_lies_14
abbrev rmX1_kindsAllowing : Room := { frames := 3, cells := 0, slots := 0, locals := 63 }
def fX1_kindsAllowing_j33 (l0 : Int32) (l1 : Int32) (l3 : Int32) (s0 : Int32) (s1 : Bool) : dnM ((Int32 × Int32) ⊕ (Int32)) :=
  dnP (.inl ((s0 + (dnZ s1)), (l3 + 1)))
def fX1_kindsAllowing_j32 (l0 : Int32) (l1 : Int32) (l3 : Int32) (s0 : Int32) : dnM ((Int32 × Int32) ⊕ (Int32)) :=
  fX1_kindsAllowing_j33 l0 l1 l3 s0 false
def fX1_kindsAllowing_b4 (c0 : Int32) (c1 : Int32) (s4 : Int32 × Int32) : dnM ((Int32 × Int32) ⊕ (Int32)) :=
  if 12 ≤ s4.2 then
  (dnP (.inr s4.1))
  else
  (if ¬ ((c1 >>> (s4.2 &&& 31)) &&& 1) = 1 then
  (fX1_kindsAllowing_j32 c0 c1 s4.2 s4.1)
  else
  (dnB (fX12_allows c0 s4.2) fun v1 =>
  if v1 = true then
  (fX1_kindsAllowing_j33 c0 c1 s4.2 s4.1 true)
  else
  (fX1_kindsAllowing_j32 c0 c1 s4.2 s4.1)))
def fX1_kindsAllowing (p0 : Int32) (p1 : Int32) : dnM Int32 :=
  dnB (dnIt 1000 (fX1_kindsAllowing_b4 p0 p1) (0, 0)) fun q4 =>
  dnP q4
abbrev jX1_kindsAllowing (w : dnWd) (x : dnX) (b : Nat) := dnD w x b (fun _ => True) cX1_kindsAllowing RX1 4 rmX1_kindsAllowing "kindsAllowing" eI
set_option maxHeartbeats 4000000 in
set_option maxRecDepth 100000 in
theorem mX1_kindsAllowing (w : dnWd) (x : dnX) (b : Nat) (p0 : Int32) (p1 : Int32) : dnMt w x b yX1_kindsAllowing cX1_kindsAllowing 4 (some .int) rmX1_kindsAllowing eI [.int p0, .int p1] (fX1_kindsAllowing p0 p1) := by
  have hlv : lv_args 0 [.int p0, .int p1] = [(0, .int p0), (1, .int p1)] := by rfl
  refine dn_mt (by decide +kernel) roI (by exact (Nat.le_of_ble_eq_true rfl)) ?_
  rw [hlv]
  refine dn_top ?_
  show jX1_kindsAllowing w x b 0 0 0 _ [] (dnB _ dnP)
  unfold fX1_kindsAllowing
  refine dn_iconst (pc := 0) (v := 0) dX1_kindsAllowing_0 rfl ?_
  refine dn_istore_n (pc := 1) dX1_kindsAllowing_1 (Nat.le_of_ble_eq_true rfl) (dnKp_nb 1 rfl rfl rfl (dnKp_of (lv2 := [(0, .int p0)]) [0] rfl rfl)) ?_
  refine dn_iconst (pc := 2) (v := 0) dX1_kindsAllowing_2 rfl ?_
  refine dn_istore_n (pc := 3) dX1_kindsAllowing_3 (Nat.le_of_ble_eq_true rfl) (dnKp_nb 0 rfl rfl rfl (dnKp_of (lv2 := [(1, .int p1), (0, .int p0)]) [1, 2] rfl rfl)) ?_
  refine dn_assoc ?_
  refine dn_lv [3, 2, 1, 0] (lv2 := (fun s => [(0, .int p0), (1, .int p1), (2, .int s.1), (3, .int s.2)]) (0, 0)) rfl ?_
  refine dn_loopE (pc := 4) (body := fX1_kindsAllowing_b4 p0 p1) 41 (fun s => [(0, .int p0), (1, .int p1), (2, .int s.1), (3, .int s.2)]) (fun q => [(2, .int q)]) (fun s4 K4 E4 hK4 hE4 => ?_) (fun q4 => ?_) 1000 (0, 0)
  · unfold fX1_kindsAllowing_b4
    have hj33 : ∀ (l3 : Int32) (s0 : Int32) (s1 : Bool), jX1_kindsAllowing w x b 33 0 0 [(0, .int p0), (1, .int p1), (3, .int l3)] [.int (dnZ s1), .int s0] (dnB (fX1_kindsAllowing_j33 p0 p1 l3 s0 s1) (dnKo K4 E4)) := by
      intro l3 s0 s1
      unfold fX1_kindsAllowing_j33
      refine dn_iadd (pc := 33) dX1_kindsAllowing_33 ?_
      refine dn_istore_n (pc := 34) dX1_kindsAllowing_34 (Nat.le_of_ble_eq_true rfl) (dnKp_nb 1 rfl rfl rfl (dnKp_of (lv2 := [(0, .int p0), (3, .int l3)]) [0, 2] rfl rfl)) ?_
      refine dn_iinc (pc := 35) (l3 + 1) 3 dX1_kindsAllowing_35 rfl rfl (Nat.le_of_ble_eq_true rfl) (dnKp_nb 0 rfl rfl rfl (dnKp_of (lv2 := [(1, .int p1), (0, .int p0)]) [1, 2] rfl rfl)) ?_
      refine dn_goto (pc := 38) 4 dX1_kindsAllowing_38 rfl ?_
      refine dn_leaf ?_
      exact dn_lv [3, 2, 1, 0] rfl (hK4 ((s0 + (dnZ s1)), (l3 + 1)))
    have hj32 : ∀ (l3 : Int32) (s0 : Int32), jX1_kindsAllowing w x b 32 0 0 [(0, .int p0), (1, .int p1), (3, .int l3)] [.int s0] (dnB (fX1_kindsAllowing_j32 p0 p1 l3 s0) (dnKo K4 E4)) := by
      intro l3 s0
      unfold fX1_kindsAllowing_j32
      refine dn_iconst (pc := 32) (v := 0) dX1_kindsAllowing_32 rfl ?_
      exact dn_lv [0, 1, 2] rfl (hj33 l3 s0 false)
    refine dn_iload_n (pc := 4) 3 dX1_kindsAllowing_4 rfl ?_
    refine dn_bipush (pc := 5) (v := 12) dX1_kindsAllowing_5 rfl ?_
    refine dn_icmp_ge (pc := 7) 41 dX1_kindsAllowing_7 rfl (fun _ => ?_) (fun _ => ?_)
    · refine dn_leaf ?_
      exact dn_lv [2] rfl (hE4 s4.1)
    · refine dn_iload_n (pc := 10) 2 dX1_kindsAllowing_10 rfl ?_
      refine dn_iload_n (pc := 11) 1 dX1_kindsAllowing_11 rfl ?_
      refine dn_iload_n (pc := 12) 3 dX1_kindsAllowing_12 rfl ?_
      refine dn_ishr (pc := 13) dX1_kindsAllowing_13 ?_
      refine dn_iconst (pc := 14) (v := 1) dX1_kindsAllowing_14 rfl ?_
      refine dn_iand (pc := 15) dX1_kindsAllowing_15 ?_
      refine dn_iconst (pc := 16) (v := 1) dX1_kindsAllowing_16 rfl ?_
      refine dn_icmp_ne (pc := 17) 32 dX1_kindsAllowing_17 rfl (fun _ => ?_) (fun _ => ?_)
      · exact dn_lv [0, 1, 3] rfl (hj32 s4.2 s4.1)
      · refine dn_iload_n (pc := 20) 0 dX1_kindsAllowing_20 rfl ?_
        refine dn_iload_n (pc := 21) 3 dX1_kindsAllowing_21 rfl ?_
        refine dn_callSN0Z (pc := 22) [.int p0, .int s4.2]  kRX1_33 (mX12_allows w x b p0 s4.2) rfl rfl (Nat.le_of_ble_eq_true rfl) ⟨(Nat.le_of_ble_eq_true rfl), (Nat.le_of_ble_eq_true rfl)⟩ ⟨rfl, rfl, (Nat.le_of_ble_eq_true rfl), (Nat.le_of_ble_eq_true rfl)⟩ dX1_kindsAllowing_22 (fun v1 => ?_)
        refine dn_ifz_eq (pc := 25) 32 dX1_kindsAllowing_25 rfl (fun _ => ?_) (fun _ => ?_)
        · refine dn_iconst (pc := 28) (v := 1) dX1_kindsAllowing_28 rfl ?_
          refine dn_goto (pc := 29) 33 dX1_kindsAllowing_29 rfl ?_
          exact dn_lv [0, 1, 3] rfl (hj33 s4.2 s4.1 true)
        · exact dn_lv [0, 1, 3] rfl (hj32 s4.2 s4.1)
  · refine dn_iload_n (pc := 41) 0 dX1_kindsAllowing_41 rfl ?_
    exact dn_ret (Nat.le_of_ble_eq_true rfl) (Nat.le_of_ble_eq_true rfl) rfl dX1_kindsAllowing_42
abbrev rmX1_bestAct : Room := { frames := 5, cells := 0, slots := 0, locals := 107 }
def fX1_bestAct_j68 (l0 : Option Nat) (l1 : Int32) (l2 : Int32) (l3 : Int32) (l4 : Int32) (l5 : Int32) : dnM ((Int32 × Int32 × Int32) ⊕ (Int32 × Int32)) :=
  dnP (.inl (l3, l4, (l5 + 1)))
def fX1_bestAct_b28 (c0 : Option Nat) (c1 : Int32) (c2 : Int32) (s28 : Int32 × Int32 × Int32) : dnM ((Int32 × Int32 × Int32) ⊕ (Int32 × Int32)) :=
  if 28 ≤ s28.2.2 then
  (dnP (.inr (s28.1, s28.2.1)))
  else
  (dnB (fX1_kindsAllowing s28.2.2 c1) fun v3 =>
  dnB (fJ9_max_7cf53 v3 (c2 - v3)) fun v4 =>
  if s28.2.1 ≤ v4 then
  (fX1_bestAct_j68 c0 c1 c2 s28.1 s28.2.1 s28.2.2)
  else
  (fX1_bestAct_j68 c0 c1 c2 s28.2.2 v4 s28.2.2))
def fX1_bestAct (r0 : Option Nat) : dnM Int32 :=
  dnB (dnCv r0 0 (fX1_possibleKinds r0)) fun v1 =>
  dnB (fJ6_bitCount_0f7a4 v1) fun v2 =>
  if 2 ≤ v2 then
  (dnB (dnIt 1000 (fX1_bestAct_b28 r0 v1 v2) ((-9), 13, 0)) fun q28 =>
  dnB (dnGR r0 0 0) fun v5 =>
  dnB (dnPL v5 1 0 ((q28.2 : Int32).toInt64)) fun _ =>
  dnP q28.1)
  else
  (dnP (-9))
abbrev jX1_bestAct (w : dnWd) (x : dnX) (b : Nat) := dnD w x b (fun _ => True) cX1_bestAct RX1 8 rmX1_bestAct "bestAct" eI
set_option maxHeartbeats 4000000 in
set_option maxRecDepth 100000 in
theorem mX1_bestAct (w : dnWd) (x : dnX) (b : Nat) (r0 : Option Nat) : dnMt w x b yX1_bestAct cX1_bestAct 8 (some .int) rmX1_bestAct eI [dnV b r0] (fX1_bestAct r0) := by
  have hlv : lv_args 0 [dnV b r0] = [(0, dnV b r0)] := by cases r0 <;> rfl
  refine dn_mt (by decide +kernel) roI (by cases r0 <;> exact (Nat.le_of_ble_eq_true rfl)) ?_
  rw [hlv]
  refine dn_top ?_
  show jX1_bestAct w x b 0 0 0 _ [] (dnB _ dnP)
  unfold fX1_bestAct
  refine dn_aload_n (pc := 0) r0 0 dX1_bestAct_0 rfl ?_
  refine dn_callV0I (pc := 1) [] r0 kRX1_37 (mX1_possibleKinds w x b r0) rfl rfl (Nat.le_of_ble_eq_true rfl) ⟨(Nat.le_of_ble_eq_true rfl), (Nat.le_of_ble_eq_true rfl)⟩ ⟨rfl, rfl, (Nat.le_of_ble_eq_true rfl), (Nat.le_of_ble_eq_true rfl)⟩ dX1_bestAct_1 (fun v1 => ?_)
  refine dn_istore_n (pc := 4) dX1_bestAct_4 (Nat.le_of_ble_eq_true rfl) (dnKp_nb 0 rfl (dn_cat b _) rfl (dnKp_of (lv2 := []) [] rfl rfl)) ?_
  refine dn_iload_n (pc := 5) 0 dX1_bestAct_5 rfl ?_
  refine dn_callS0I (pc := 6) [.int v1]  kRX1_41 (mJ6_bitCount_0f7a4 w x b v1) rfl rfl (Nat.le_of_ble_eq_true rfl) ⟨(Nat.le_of_ble_eq_true rfl), (Nat.le_of_ble_eq_true rfl)⟩ ⟨rfl, rfl, (Nat.le_of_ble_eq_true rfl), (Nat.le_of_ble_eq_true rfl)⟩ dX1_bestAct_6 (fun v2 => ?_)
  refine dn_istore_n (pc := 9) dX1_bestAct_9 (Nat.le_of_ble_eq_true rfl) (dnKp_nb 0 rfl rfl rfl (dnKp_of (lv2 := [(0, dnV b r0)]) [1] rfl rfl)) ?_
  refine dn_iload_n (pc := 10) 0 dX1_bestAct_10 rfl ?_
  refine dn_iconst (pc := 11) (v := 2) dX1_bestAct_11 rfl ?_
  refine dn_icmp_ge (pc := 12) 18 dX1_bestAct_12 rfl (fun _ => ?_) (fun _ => ?_)
  · refine dn_bipush (pc := 18) (v := -9) dX1_bestAct_18 rfl ?_
    refine dn_istore_n (pc := 20) dX1_bestAct_20 (Nat.le_of_ble_eq_true rfl) (dnKp_nb 0 rfl rfl rfl (dnKp_of (lv2 := [(1, .int v1), (0, dnV b r0)]) [1, 2] rfl rfl)) ?_
    refine dn_bipush (pc := 21) (v := 13) dX1_bestAct_21 rfl ?_
    refine dn_istore (pc := 23) dX1_bestAct_23 (Nat.le_of_ble_eq_true rfl) (dnKp_nb 0 rfl rfl rfl (dnKp_of (lv2 := [(2, .int v2), (1, .int v1), (0, dnV b r0)]) [1, 2, 3] rfl rfl)) ?_
    refine dn_iconst (pc := 25) (v := 0) dX1_bestAct_25 rfl ?_
    refine dn_istore (pc := 26) dX1_bestAct_26 (Nat.le_of_ble_eq_true rfl) (dnKp_nb 0 rfl rfl rfl (dnKp_of (lv2 := [(3, .int (-9)), (2, .int v2), (1, .int v1), (0, dnV b r0)]) [1, 2, 3, 4] rfl rfl)) ?_
    refine dn_assoc ?_
    refine dn_lv [5, 4, 3, 2, 1, 0] (lv2 := (fun s => [(0, dnV b r0), (1, .int v1), (2, .int v2), (3, .int s.1), (4, .int s.2.1), (5, .int s.2.2)]) ((-9), 13, 0)) rfl ?_
    refine dn_loopE (pc := 28) (body := fX1_bestAct_b28 r0 v1 v2) 74 (fun s => [(0, dnV b r0), (1, .int v1), (2, .int v2), (3, .int s.1), (4, .int s.2.1), (5, .int s.2.2)]) (fun q => [(0, dnV b r0), (3, .int q.1), (4, .int q.2)]) (fun s28 K28 E28 hK28 hE28 => ?_) (fun q28 => ?_) 1000 ((-9), 13, 0)
    · unfold fX1_bestAct_b28
      have hj68 : ∀ (l3 : Int32) (l4 : Int32) (l5 : Int32), jX1_bestAct w x b 68 0 0 [(0, dnV b r0), (1, .int v1), (2, .int v2), (3, .int l3), (4, .int l4), (5, .int l5)] [] (dnB (fX1_bestAct_j68 r0 v1 v2 l3 l4 l5) (dnKo K28 E28)) := by
        intro l3 l4 l5
        unfold fX1_bestAct_j68
        refine dn_iinc (pc := 68) (l5 + 1) 5 dX1_bestAct_68 rfl rfl (Nat.le_of_ble_eq_true rfl) (dnKp_nb 4 rfl rfl rfl (dnKp_of (lv2 := [(0, dnV b r0), (1, .int v1), (2, .int v2), (3, .int l3)]) [0, 1, 2, 3] rfl rfl)) ?_
        refine dn_goto (pc := 71) 28 dX1_bestAct_71 rfl ?_
        refine dn_leaf ?_
        exact dn_lv [2, 3, 4, 5, 1, 0] rfl (hK28 (l3, l4, (l5 + 1)))
      refine dn_iload (pc := 28) 5 dX1_bestAct_28 rfl ?_
      refine dn_bipush (pc := 30) (v := 28) dX1_bestAct_30 rfl ?_
      refine dn_icmp_ge (pc := 32) 74 dX1_bestAct_32 rfl (fun _ => ?_) (fun _ => ?_)
      · refine dn_leaf ?_
        exact dn_lv [0, 3, 4] rfl (hE28 (s28.1, s28.2.1))
      · refine dn_iload (pc := 35) 5 dX1_bestAct_35 rfl ?_
        refine dn_iload_n (pc := 37) 1 dX1_bestAct_37 rfl ?_
        refine dn_callS0I (pc := 38) [.int s28.2.2, .int v1]  kRX1_47 (mX1_kindsAllowing w x b s28.2.2 v1) rfl rfl (Nat.le_of_ble_eq_true rfl) ⟨(Nat.le_of_ble_eq_true rfl), (Nat.le_of_ble_eq_true rfl)⟩ ⟨rfl, rfl, (Nat.le_of_ble_eq_true rfl), (Nat.le_of_ble_eq_true rfl)⟩ dX1_bestAct_38 (fun v3 => ?_)
        refine dn_istore (pc := 41) dX1_bestAct_41 (Nat.le_of_ble_eq_true rfl) (dnKp_nb 5 rfl rfl rfl (dnKp_of (lv2 := [(0, dnV b r0), (1, .int v1), (2, .int v2), (3, .int s28.1), (4, .int s28.2.1)]) [0, 1, 2, 3, 4] rfl rfl)) ?_
        refine dn_iload (pc := 43) 0 dX1_bestAct_43 rfl ?_
        refine dn_iload_n (pc := 45) 4 dX1_bestAct_45 rfl ?_
        refine dn_iload (pc := 46) 0 dX1_bestAct_46 rfl ?_
        refine dn_isub (pc := 48) dX1_bestAct_48 ?_
        refine dn_callS0I (pc := 49) [.int v3, .int (v2 - v3)]  kRX1_51 (mJ9_max_7cf53 w x b v3 (v2 - v3)) rfl rfl (Nat.le_of_ble_eq_true rfl) ⟨(Nat.le_of_ble_eq_true rfl), (Nat.le_of_ble_eq_true rfl)⟩ ⟨rfl, rfl, (Nat.le_of_ble_eq_true rfl), (Nat.le_of_ble_eq_true rfl)⟩ dX1_bestAct_49 (fun v4 => ?_)
        refine dn_istore (pc := 52) dX1_bestAct_52 (Nat.le_of_ble_eq_true rfl) (dnKp_of (lv2 := [(5, .int s28.2.2), (0, dnV b r0), (1, .int v1), (2, .int v2), (3, .int s28.1), (4, .int s28.2.1)]) [1, 2, 3, 4, 5, 6] rfl rfl) ?_
        refine dn_iload (pc := 54) 0 dX1_bestAct_54 rfl ?_
        refine dn_iload (pc := 56) 6 dX1_bestAct_56 rfl ?_
        refine dn_icmp_ge (pc := 58) 68 dX1_bestAct_58 rfl (fun _ => ?_) (fun _ => ?_)
        · exact dn_lv [2, 3, 4, 5, 6, 1] rfl (hj68 s28.1 s28.2.1 s28.2.2)
        · refine dn_iload (pc := 61) 1 dX1_bestAct_61 rfl ?_
          refine dn_istore_n (pc := 63) dX1_bestAct_63 (Nat.le_of_ble_eq_true rfl) (dnKp_nb 4 rfl rfl rfl (dnKp_of (lv2 := [(7, .int v4), (5, .int s28.2.2), (0, dnV b r0), (1, .int v1)]) [0, 1, 2, 3] rfl rfl)) ?_
          refine dn_iload (pc := 64) 2 dX1_bestAct_64 rfl ?_
          refine dn_istore (pc := 66) dX1_bestAct_66 (Nat.le_of_ble_eq_true rfl) (dnKp_nb 0 rfl rfl rfl (dnKp_of (lv2 := [(2, .int v2), (5, .int s28.2.2), (0, dnV b r0), (1, .int v1)]) [1, 3, 4, 5] rfl rfl)) ?_
          exact dn_lv [4, 5, 2, 1, 0, 3] rfl (hj68 s28.2.2 v4 s28.2.2)
    · refine dn_aload_n (pc := 74) r0 0 dX1_bestAct_74 rfl ?_
      refine dn_getR (pc := 75) r0 lRX1_22 dX1_bestAct_75 (fun v5 => ?_)
      refine dn_iload (pc := 78) 2 dX1_bestAct_78 rfl ?_
      refine dn_i2l (pc := 80) dX1_bestAct_80 ?_
      refine dn_putL (pc := 81) v5 lRX1_56 dX1_bestAct_81 ?_
      refine dn_iload_n (pc := 84) 1 dX1_bestAct_84 rfl ?_
      exact dn_ret (Nat.le_of_ble_eq_true rfl) (Nat.le_of_ble_eq_true rfl) rfl dX1_bestAct_85
  · refine dn_bipush (pc := 15) (v := -9) dX1_bestAct_15 rfl ?_
    exact dn_ret (Nat.le_of_ble_eq_true rfl) (Nat.le_of_ble_eq_true rfl) rfl dX1_bestAct_17
abbrev rmX12_next : Room := { frames := 6, cells := 0, slots := 0, locals := 134 }
def fX12_next (r0 : Option Nat) : dnM Int32 :=
  dnB (dnGR r0 10 10) fun v1 =>
  dnB (dnCv v1 0 (fX1_bestAct v1)) fun v2 =>
  dnP v2
abbrev jX12_next (w : dnWd) (x : dnX) (b : Nat) := dnD w x b (fun _ => True) cX12_next RX12 1 rmX12_next "next" eI
set_option maxHeartbeats 4000000 in
set_option maxRecDepth 100000 in
theorem mX12_next (w : dnWd) (x : dnX) (b : Nat) (r0 : Option Nat) : dnMt w x b yX12_next cX12_next 1 (some .int) rmX12_next eI [dnV b r0] (fX12_next r0) := by
  have hlv : lv_args 0 [dnV b r0] = [(0, dnV b r0)] := by cases r0 <;> rfl
  refine dn_mt (by decide +kernel) roI (by cases r0 <;> exact (Nat.le_of_ble_eq_true rfl)) ?_
  rw [hlv]
  refine dn_top ?_
  show jX12_next w x b 0 0 0 _ [] (dnB _ dnP)
  unfold fX12_next
  refine dn_aload_n (pc := 0) r0 0 dX12_next_0 rfl ?_
  refine dn_getR (pc := 1) r0 lRX12_79 dX12_next_1 (fun v1 => ?_)
  refine dn_callV0I (pc := 4) [] v1 kRX12_250 (mX1_bestAct w x b v1) rfl rfl (Nat.le_of_ble_eq_true rfl) ⟨(Nat.le_of_ble_eq_true rfl), (Nat.le_of_ble_eq_true rfl)⟩ ⟨rfl, rfl, (Nat.le_of_ble_eq_true rfl), (Nat.le_of_ble_eq_true rfl)⟩ dX12_next_4 (fun v2 => ?_)
  exact dn_ret (Nat.le_of_ble_eq_true rfl) (Nat.le_of_ble_eq_true rfl) rfl dX12_next_7
abbrev rmX12_order : Room := { frames := 5, cells := 0, slots := 0, locals := 113 }
def fX12_order (r0 : Option Nat) (p1 : Int32) (p2 : Int32) : dnM Int32 :=
  dnB (dnGR r0 10 4) fun v1 =>
  dnB (dnCv v1 5 (fX6_sortRow v1 p1 p2)) fun v2 =>
  dnB (dnCv r0 10 (fX12_tally r0 v2)) fun v3 =>
  dnP v3
abbrev jX12_order (w : dnWd) (x : dnX) (b : Nat) := dnD w x b (fun _ => True) cX12_order RX12 3 rmX12_order "order" eI
set_option maxHeartbeats 4000000 in
set_option maxRecDepth 100000 in
theorem mX12_order (w : dnWd) (x : dnX) (b : Nat) (r0 : Option Nat) (p1 : Int32) (p2 : Int32) : dnMt w x b yX12_order cX12_order 3 (some .int) rmX12_order eI [dnV b r0, .int p1, .int p2] (fX12_order r0 p1 p2) := by
  have hlv : lv_args 0 [dnV b r0, .int p1, .int p2] = [(0, dnV b r0), (1, .int p1), (2, .int p2)] := by cases r0 <;> rfl
  refine dn_mt (by decide +kernel) roI (by cases r0 <;> exact (Nat.le_of_ble_eq_true rfl)) ?_
  rw [hlv]
  refine dn_top ?_
  show jX12_order w x b 0 0 0 _ [] (dnB _ dnP)
  unfold fX12_order
  refine dn_aload_n (pc := 0) r0 0 dX12_order_0 rfl ?_
  refine dn_aload_n (pc := 1) r0 0 dX12_order_1 rfl ?_
  refine dn_getR (pc := 2) r0 lRX12_35 dX12_order_2 (fun v1 => ?_)
  refine dn_iload_n (pc := 5) 1 dX12_order_5 rfl ?_
  refine dn_iload_n (pc := 6) 2 dX12_order_6 rfl ?_
  refine dn_callV0I (pc := 7) [.int p1, .int p2] v1 kRX12_157 (mX6_sortRow w x b v1 p1 p2) rfl rfl (Nat.le_of_ble_eq_true rfl) ⟨(Nat.le_of_ble_eq_true rfl), (Nat.le_of_ble_eq_true rfl)⟩ ⟨rfl, rfl, (Nat.le_of_ble_eq_true rfl), (Nat.le_of_ble_eq_true rfl)⟩ dX12_order_7 (fun v2 => ?_)
  refine dn_callV0I (pc := 10) [.int v2] r0 kRX12_91 (mX12_tally w x b r0 v2) rfl rfl (Nat.le_of_ble_eq_true rfl) ⟨(Nat.le_of_ble_eq_true rfl), (Nat.le_of_ble_eq_true rfl)⟩ ⟨rfl, rfl, (Nat.le_of_ble_eq_true rfl), (Nat.le_of_ble_eq_true rfl)⟩ dX12_order_10 (fun v3 => ?_)
  exact dn_ret (Nat.le_of_ble_eq_true rfl) (Nat.le_of_ble_eq_true rfl) rfl dX12_order_13
abbrev rmX4_reach : Room := { frames := 0, cells := 0, slots := 0, locals := 0 }
def fX4_reach (r0 : Option Nat) (p1 : Int32) (p2 : Int32) : dnM Unit :=
  dnB (dnGR r0 3 5) fun v1 =>
  dnB (dnTI v1 100 ((p1 * 12) + p2) 1) fun _ =>
  dnB (dnGR r0 3 3) fun v2 =>
  dnB (dnGI r0 3 4) fun v3 =>
  dnB (dnTI v2 100 v3 ((p1 * 12) + p2)) fun _ =>
  dnB (dnGI r0 3 4) fun v4 =>
  dnB (dnPI r0 3 4 (v4 + 1)) fun _ =>
  dnP ()
abbrev jX4_reach (w : dnWd) (x : dnX) (b : Nat) := dnD w x b (fun _ => True) cX4_reach RX4 3 rmX4_reach "reach" eU
set_option maxHeartbeats 4000000 in
set_option maxRecDepth 100000 in
theorem mX4_reach (w : dnWd) (x : dnX) (b : Nat) (r0 : Option Nat) (p1 : Int32) (p2 : Int32) : dnMt w x b yX4_reach cX4_reach 3 none rmX4_reach eU [dnV b r0, .int p1, .int p2] (fX4_reach r0 p1 p2) := by
  have hlv : lv_args 0 [dnV b r0, .int p1, .int p2] = [(0, dnV b r0), (1, .int p1), (2, .int p2)] := by cases r0 <;> rfl
  refine dn_mt (by decide +kernel) roU (by cases r0 <;> exact (Nat.le_of_ble_eq_true rfl)) ?_
  rw [hlv]
  refine dn_top ?_
  show jX4_reach w x b 0 0 0 _ [] (dnB _ dnP)
  unfold fX4_reach
  refine dn_aload_n (pc := 0) r0 0 dX4_reach_0 rfl ?_
  refine dn_getR (pc := 1) r0 lRX4_24 dX4_reach_1 (fun v1 => ?_)
  refine dn_iload_n (pc := 4) 1 dX4_reach_4 rfl ?_
  refine dn_bipush (pc := 5) (v := 12) dX4_reach_5 rfl ?_
  refine dn_imul (pc := 7) dX4_reach_7 ?_
  refine dn_iload_n (pc := 8) 2 dX4_reach_8 rfl ?_
  refine dn_iadd (pc := 9) dX4_reach_9 ?_
  refine dn_iconst (pc := 10) (v := 1) dX4_reach_10 rfl ?_
  refine dn_iast (pc := 11) v1 dX4_reach_11 ?_
  refine dn_aload_n (pc := 12) r0 0 dX4_reach_12 rfl ?_
  refine dn_getR (pc := 13) r0 lRX4_20 dX4_reach_13 (fun v2 => ?_)
  refine dn_aload_n (pc := 16) r0 0 dX4_reach_16 rfl ?_
  refine dn_getI (pc := 17) r0 lRX4_59 dX4_reach_17 (fun v3 => ?_)
  refine dn_iload_n (pc := 20) 1 dX4_reach_20 rfl ?_
  refine dn_bipush (pc := 21) (v := 12) dX4_reach_21 rfl ?_
  refine dn_imul (pc := 23) dX4_reach_23 ?_
  refine dn_iload_n (pc := 24) 2 dX4_reach_24 rfl ?_
  refine dn_iadd (pc := 25) dX4_reach_25 ?_
  refine dn_iast (pc := 26) v2 dX4_reach_26 ?_
  refine dn_aload_n (pc := 27) r0 0 dX4_reach_27 rfl ?_
  refine dn_dup (pc := 28) dX4_reach_28 (dn_cat b _) ?_
  refine dn_getI (pc := 29) r0 lRX4_59 dX4_reach_29 (fun v4 => ?_)
  refine dn_iconst (pc := 32) (v := 1) dX4_reach_32 rfl ?_
  refine dn_iadd (pc := 33) dX4_reach_33 ?_
  refine dn_putI (pc := 34) r0 lRX4_59 dX4_reach_34 ?_
  exact dn_ret (Nat.le_of_ble_eq_true rfl) (Nat.le_of_ble_eq_true rfl) rfl dX4_reach_37
abbrev rmX4_tryStep : Room := { frames := 3, cells := 0, slots := 0, locals := 66 }
def fX4_tryStep (r0 : Option Nat) (p1 : Int32) (p2 : Int32) (p3 : Int32) (p4 : Int32) : dnM Unit :=
  dnB (dnGR r0 3 0) fun v1 =>
  dnB (dnNz 12) fun _ =>
  dnB (dnCv v1 7 (fX9_rowAt v1 p1 (p2 / 12))) fun v2 =>
  dnB (dnGR r0 3 0) fun v3 =>
  dnB (dnCv v3 7 (fX9_rowAt v3 p1 p3)) fun v4 =>
  v2.elim
  (dnP ())
  (fun v5 => v4.elim
  (dnP ())
  (fun v6 => dnB (dnCv (some v6) 4 (fX5_hasCell (some v6) p4)) fun v7 =>
  if v7 = true then
  (dnB (dnGR r0 3 5) fun v8 =>
  dnB (dnAI v8 100 ((p3 * 12) + p4)) fun v9 =>
  if ¬ v9 = 1 then
  (dnB (dnNz 12) fun _ =>
  dnB (dnCv (some v5) 4 (fX5_matches (some v5) (p2 - p2 / 12 * 12) (some v6) p4)) fun v10 =>
  if v10 = true then
  (dnB (dnCv r0 3 (fX4_reach r0 p3 p4)) fun _ =>
  dnP ())
  else
  (dnP ()))
  else
  (dnP ()))
  else
  (dnP ())))
abbrev jX4_tryStep (w : dnWd) (x : dnX) (b : Nat) := dnD w x b (fun _ => True) cX4_tryStep RX4 7 rmX4_tryStep "tryStep" eU
set_option maxHeartbeats 4000000 in
set_option maxRecDepth 100000 in
theorem mX4_tryStep (w : dnWd) (x : dnX) (b : Nat) (r0 : Option Nat) (p1 : Int32) (p2 : Int32) (p3 : Int32) (p4 : Int32) : dnMt w x b yX4_tryStep cX4_tryStep 7 none rmX4_tryStep eU [dnV b r0, .int p1, .int p2, .int p3, .int p4] (fX4_tryStep r0 p1 p2 p3 p4) := by
  have hlv : lv_args 0 [dnV b r0, .int p1, .int p2, .int p3, .int p4] = [(0, dnV b r0), (1, .int p1), (2, .int p2), (3, .int p3), (4, .int p4)] := by cases r0 <;> rfl
  refine dn_mt (by decide +kernel) roU (by cases r0 <;> exact (Nat.le_of_ble_eq_true rfl)) ?_
  rw [hlv]
  refine dn_top ?_
  show jX4_tryStep w x b 0 0 0 _ [] (dnB _ dnP)
  unfold fX4_tryStep
  refine dn_aload_n (pc := 0) r0 0 dX4_tryStep_0 rfl ?_
  refine dn_getR (pc := 1) r0 lRX4_27 dX4_tryStep_1 (fun v1 => ?_)
  refine dn_iload_n (pc := 4) 1 dX4_tryStep_4 rfl ?_
  refine dn_iload_n (pc := 5) 2 dX4_tryStep_5 rfl ?_
  refine dn_bipush (pc := 6) (v := 12) dX4_tryStep_6 rfl ?_
  refine dn_idiv (pc := 8) dX4_tryStep_8 ?_
  refine dn_callV0R (pc := 9) [.int p1, .int (p2 / 12)] v1 kRX4_35 (mX9_rowAt w x b v1 p1 (p2 / 12)) rfl rfl (Nat.le_of_ble_eq_true rfl) ⟨(Nat.le_of_ble_eq_true rfl), (Nat.le_of_ble_eq_true rfl)⟩ ⟨rfl, rfl, (Nat.le_of_ble_eq_true rfl), (Nat.le_of_ble_eq_true rfl)⟩ dX4_tryStep_9 (fun v2 => ?_)
  refine dn_astore (pc := 12) v2 dX4_tryStep_12 (Nat.le_of_ble_eq_true rfl) (dnKp_nb 4 rfl rfl rfl (dnKp_of (lv2 := [(0, dnV b r0), (1, .int p1), (2, .int p2), (3, .int p3)]) [0, 1, 2, 3] rfl rfl)) ?_
  refine dn_aload_n (pc := 14) r0 2 dX4_tryStep_14 rfl ?_
  refine dn_getR (pc := 15) r0 lRX4_27 dX4_tryStep_15 (fun v3 => ?_)
  refine dn_iload_n (pc := 18) 3 dX4_tryStep_18 rfl ?_
  refine dn_iload_n (pc := 19) 5 dX4_tryStep_19 rfl ?_
  refine dn_callV0R (pc := 20) [.int p1, .int p3] v3 kRX4_35 (mX9_rowAt w x b v3 p1 p3) rfl rfl (Nat.le_of_ble_eq_true rfl) ⟨(Nat.le_of_ble_eq_true rfl), (Nat.le_of_ble_eq_true rfl)⟩ ⟨rfl, rfl, (Nat.le_of_ble_eq_true rfl), (Nat.le_of_ble_eq_true rfl)⟩ dX4_tryStep_20 (fun v4 => ?_)
  refine dn_astore (pc := 23) v4 dX4_tryStep_23 (Nat.le_of_ble_eq_true rfl) (dnKp_nb 0 rfl (dn_cat b _) rfl (dnKp_of (lv2 := [(4, .int p4), (0, dnV b r0), (2, .int p2), (3, .int p3)]) [1, 2, 4, 5] rfl rfl)) ?_
  refine dn_aload (pc := 25) v2 1 dX4_tryStep_25 rfl ?_
  refine dn_ifnull (pc := 27) v2 61 dX4_tryStep_27 rfl (fun e_ => ?_) (fun v5 e_ => ?_)
  · subst e_
    exact dn_ret (Nat.le_of_ble_eq_true rfl) (Nat.le_of_ble_eq_true rfl) rfl dX4_tryStep_61
  · subst e_
    refine dn_aload (pc := 30) v4 0 dX4_tryStep_30 rfl ?_
    refine dn_ifnull (pc := 32) v4 61 dX4_tryStep_32 rfl (fun e_ => ?_) (fun v6 e_ => ?_)
    · subst e_
      exact dn_ret (Nat.le_of_ble_eq_true rfl) (Nat.le_of_ble_eq_true rfl) rfl dX4_tryStep_61
    · subst e_
      refine dn_aload (pc := 35) (some v6) 0 dX4_tryStep_35 rfl ?_
      refine dn_iload (pc := 37) 2 dX4_tryStep_37 rfl ?_
      refine dn_callV0Z (pc := 39) [.int p4] (some v6) kRX4_45 (mX5_hasCell w x b (some v6) p4) rfl rfl (Nat.le_of_ble_eq_true rfl) ⟨(Nat.le_of_ble_eq_true rfl), (Nat.le_of_ble_eq_true rfl)⟩ ⟨rfl, rfl, (Nat.le_of_ble_eq_true rfl), (Nat.le_of_ble_eq_true rfl)⟩ dX4_tryStep_39 (fun v7 => ?_)
      refine dn_ifz_eq (pc := 42) 61 dX4_tryStep_42 rfl (fun _ => ?_) (fun _ => ?_)
      · refine dn_aload_n (pc := 45) r0 3 dX4_tryStep_45 rfl ?_
        refine dn_getR (pc := 46) r0 lRX4_24 dX4_tryStep_46 (fun v8 => ?_)
        refine dn_iload_n (pc := 49) 5 dX4_tryStep_49 rfl ?_
        refine dn_bipush (pc := 50) (v := 12) dX4_tryStep_50 rfl ?_
        refine dn_imul (pc := 52) dX4_tryStep_52 ?_
        refine dn_iload (pc := 53) 2 dX4_tryStep_53 rfl ?_
        refine dn_iadd (pc := 55) dX4_tryStep_55 ?_
        refine dn_iald (pc := 56) v8 dX4_tryStep_56 (fun v9 => ?_)
        refine dn_iconst (pc := 57) (v := 1) dX4_tryStep_57 rfl ?_
        refine dn_icmp_ne (pc := 58) 62 dX4_tryStep_58 rfl (fun _ => ?_) (fun _ => ?_)
        · refine dn_aload (pc := 62) (some v5) 1 dX4_tryStep_62 rfl ?_
          refine dn_iload_n (pc := 64) 4 dX4_tryStep_64 rfl ?_
          refine dn_bipush (pc := 65) (v := 12) dX4_tryStep_65 rfl ?_
          refine dn_irem (pc := 67) dX4_tryStep_67 ?_
          refine dn_aload (pc := 68) (some v6) 0 dX4_tryStep_68 rfl ?_
          refine dn_iload (pc := 70) 2 dX4_tryStep_70 rfl ?_
          refine dn_callV0Z (pc := 72) [.int (p2 - p2 / 12 * 12), dnV b (some v6), .int p4] (some v5) kRX4_82 (mX5_matches w x b (some v5) (p2 - p2 / 12 * 12) (some v6) p4) rfl rfl (Nat.le_of_ble_eq_true rfl) ⟨(Nat.le_of_ble_eq_true rfl), (Nat.le_of_ble_eq_true rfl)⟩ ⟨rfl, rfl, (Nat.le_of_ble_eq_true rfl), (Nat.le_of_ble_eq_true rfl)⟩ dX4_tryStep_72 (fun v10 => ?_)
          refine dn_ifz_eq (pc := 75) 85 dX4_tryStep_75 rfl (fun _ => ?_) (fun _ => ?_)
          · refine dn_aload_n (pc := 78) r0 3 dX4_tryStep_78 rfl ?_
            refine dn_iload_n (pc := 79) 5 dX4_tryStep_79 rfl ?_
            refine dn_iload (pc := 80) 2 dX4_tryStep_80 rfl ?_
            refine dn_callV0U (pc := 82) [.int p3, .int p4] r0 kRX4_74 (mX4_reach w x b r0 p3 p4) rfl rfl (Nat.le_of_ble_eq_true rfl) ⟨(Nat.le_of_ble_eq_true rfl), (Nat.le_of_ble_eq_true rfl)⟩ ⟨rfl, rfl, (Nat.le_of_ble_eq_true rfl), (Nat.le_of_ble_eq_true rfl)⟩ dX4_tryStep_82 (fun _ => ?_)
            exact dn_ret (Nat.le_of_ble_eq_true rfl) (Nat.le_of_ble_eq_true rfl) rfl dX4_tryStep_85
          · exact dn_ret (Nat.le_of_ble_eq_true rfl) (Nat.le_of_ble_eq_true rfl) rfl dX4_tryStep_85
        · exact dn_ret (Nat.le_of_ble_eq_true rfl) (Nat.le_of_ble_eq_true rfl) rfl dX4_tryStep_61
      · exact dn_ret (Nat.le_of_ble_eq_true rfl) (Nat.le_of_ble_eq_true rfl) rfl dX4_tryStep_61
abbrev rmX4_spread : Room := { frames := 4, cells := 0, slots := 0, locals := 92 }
def fX4_spread_b14 (c0 : Option Nat) (c1 : Int32) (s14 : Int32) : dnM ((Int32) ⊕ (Unit)) :=
  dnB (dnGR c0 3 3) fun v2 =>
  dnB (dnLn v2 100) fun v3 =>
  if v3 ≤ s14 then
  (dnP (.inr ()))
  else
  (dnB (dnGI c0 3 4) fun v4 =>
  if v4 ≤ s14 then
  (dnP (.inr ()))
  else
  (dnB (dnGR c0 3 3) fun v5 =>
  dnB (dnAI v5 100 s14) fun v6 =>
  dnB (dnNz 12) fun _ =>
  dnB (dnGR c0 3 3) fun v7 =>
  dnB (dnAI v7 100 s14) fun v8 =>
  dnB (dnNz 12) fun _ =>
  dnB (dnGR c0 3 3) fun v9 =>
  dnB (dnAI v9 100 s14) fun v10 =>
  dnB (dnCv c0 3 (fX4_tryStep c0 c1 v10 (v6 / 12) ((v8 - v8 / 12 * 12) - 1))) fun _ =>
  dnB (dnGR c0 3 3) fun v12 =>
  dnB (dnAI v12 100 s14) fun v13 =>
  dnB (dnCv c0 3 (fX4_tryStep c0 c1 v13 (v6 / 12) ((v8 - v8 / 12 * 12) + 1))) fun _ =>
  dnB (dnGR c0 3 3) fun v15 =>
  dnB (dnAI v15 100 s14) fun v16 =>
  dnB (dnCv c0 3 (fX4_tryStep c0 c1 v16 ((v6 / 12) - 1) (v8 - v8 / 12 * 12))) fun _ =>
  dnB (dnGR c0 3 3) fun v18 =>
  dnB (dnAI v18 100 s14) fun v19 =>
  dnB (dnCv c0 3 (fX4_tryStep c0 c1 v19 ((v6 / 12) + 1) (v8 - v8 / 12 * 12))) fun _ =>
  dnP (.inl (s14 + 1))))
def fX4_spread (r0 : Option Nat) (p1 : Int32) (p2 : Int32) (p3 : Int32) : dnM Unit :=
  dnB (dnPI r0 3 4 0) fun _ =>
  dnB (dnCv r0 3 (fX4_reach r0 p2 p3)) fun _ =>
  dnB (dnIt 1000 (fX4_spread_b14 r0 p1) 0) fun q14 =>
  dnP ()
abbrev jX4_spread (w : dnWd) (x : dnX) (b : Nat) := dnD w x b (fun _ => True) cX4_spread RX4 7 rmX4_spread "spread" eU
set_option maxHeartbeats 4000000 in
set_option maxRecDepth 100000 in
theorem mX4_spread (w : dnWd) (x : dnX) (b : Nat) (r0 : Option Nat) (p1 : Int32) (p2 : Int32) (p3 : Int32) : dnMt w x b yX4_spread cX4_spread 7 none rmX4_spread eU [dnV b r0, .int p1, .int p2, .int p3] (fX4_spread r0 p1 p2 p3) := by
  have hlv : lv_args 0 [dnV b r0, .int p1, .int p2, .int p3] = [(0, dnV b r0), (1, .int p1), (2, .int p2), (3, .int p3)] := by cases r0 <;> rfl
  refine dn_mt (by decide +kernel) roU (by cases r0 <;> exact (Nat.le_of_ble_eq_true rfl)) ?_
  rw [hlv]
  refine dn_top ?_
  show jX4_spread w x b 0 0 0 _ [] (dnB _ dnP)
  unfold fX4_spread
  refine dn_aload_n (pc := 0) r0 0 dX4_spread_0 rfl ?_
  refine dn_iconst (pc := 1) (v := 0) dX4_spread_1 rfl ?_
  refine dn_putI (pc := 2) r0 lRX4_59 dX4_spread_2 ?_
  refine dn_aload_n (pc := 5) r0 0 dX4_spread_5 rfl ?_
  refine dn_iload_n (pc := 6) 2 dX4_spread_6 rfl ?_
  refine dn_iload_n (pc := 7) 3 dX4_spread_7 rfl ?_
  refine dn_callV0U (pc := 8) [.int p2, .int p3] r0 kRX4_74 (mX4_reach w x b r0 p2 p3) rfl rfl (Nat.le_of_ble_eq_true rfl) ⟨(Nat.le_of_ble_eq_true rfl), (Nat.le_of_ble_eq_true rfl)⟩ ⟨rfl, rfl, (Nat.le_of_ble_eq_true rfl), (Nat.le_of_ble_eq_true rfl)⟩ dX4_spread_8 (fun _ => ?_)
  refine dn_iconst (pc := 11) (v := 0) dX4_spread_11 rfl ?_
  refine dn_istore (pc := 12) dX4_spread_12 (Nat.le_of_ble_eq_true rfl) (dnKp_of (lv2 := [(0, dnV b r0), (1, .int p1)]) [0, 1] rfl rfl) ?_
  refine dn_assoc ?_
  refine dn_lv [1, 2, 0] (lv2 := (fun s => [(0, dnV b r0), (1, .int p1), (4, .int s)]) 0) rfl ?_
  refine dn_loopE (pc := 14) (body := fX4_spread_b14 r0 p1) 135 (fun s => [(0, dnV b r0), (1, .int p1), (4, .int s)]) (fun q => []) (fun s14 K14 E14 hK14 hE14 => ?_) (fun q14 => ?_) 1000 0
  · unfold fX4_spread_b14
    refine dn_iload (pc := 14) 2 dX4_spread_14 rfl ?_
    refine dn_aload_n (pc := 16) r0 0 dX4_spread_16 rfl ?_
    refine dn_getR (pc := 17) r0 lRX4_20 dX4_spread_17 (fun v2 => ?_)
    refine dn_alen (pc := 20) 0 v2 (by decide) (fun _ => rfl) dX4_spread_20 (fun v3 => ?_)
    refine dn_icmp_ge (pc := 21) 135 dX4_spread_21 rfl (fun _ => ?_) (fun _ => ?_)
    · refine dn_leaf ?_
      exact dn_lv [] rfl (hE14 ())
    · refine dn_iload (pc := 24) 2 dX4_spread_24 rfl ?_
      refine dn_aload_n (pc := 26) r0 0 dX4_spread_26 rfl ?_
      refine dn_getI (pc := 27) r0 lRX4_59 dX4_spread_27 (fun v4 => ?_)
      refine dn_icmp_ge (pc := 30) 135 dX4_spread_30 rfl (fun _ => ?_) (fun _ => ?_)
      · refine dn_leaf ?_
        exact dn_lv [] rfl (hE14 ())
      · refine dn_aload_n (pc := 33) r0 0 dX4_spread_33 rfl ?_
        refine dn_getR (pc := 34) r0 lRX4_20 dX4_spread_34 (fun v5 => ?_)
        refine dn_iload (pc := 37) 2 dX4_spread_37 rfl ?_
        refine dn_iald (pc := 39) v5 dX4_spread_39 (fun v6 => ?_)
        refine dn_bipush (pc := 40) (v := 12) dX4_spread_40 rfl ?_
        refine dn_idiv (pc := 42) dX4_spread_42 ?_
        refine dn_istore (pc := 43) dX4_spread_43 (Nat.le_of_ble_eq_true rfl) (dnKp_nb 2 rfl rfl rfl (dnKp_of (lv2 := [(0, dnV b r0), (1, .int p1)]) [0, 1] rfl rfl)) ?_
        refine dn_aload_n (pc := 45) r0 2 dX4_spread_45 rfl ?_
        refine dn_getR (pc := 46) r0 lRX4_20 dX4_spread_46 (fun v7 => ?_)
        refine dn_iload (pc := 49) 1 dX4_spread_49 rfl ?_
        refine dn_iald (pc := 51) v7 dX4_spread_51 (fun v8 => ?_)
        refine dn_bipush (pc := 52) (v := 12) dX4_spread_52 rfl ?_
        refine dn_irem (pc := 54) dX4_spread_54 ?_
        refine dn_istore (pc := 55) dX4_spread_55 (Nat.le_of_ble_eq_true rfl) (dnKp_nb 0 rfl rfl rfl (dnKp_of (lv2 := [(4, .int s14), (0, dnV b r0), (1, .int p1)]) [1, 2, 3] rfl rfl)) ?_
        refine dn_aload_n (pc := 57) r0 3 dX4_spread_57 rfl ?_
        refine dn_iload_n (pc := 58) 4 dX4_spread_58 rfl ?_
        refine dn_aload_n (pc := 59) r0 3 dX4_spread_59 rfl ?_
        refine dn_getR (pc := 60) r0 lRX4_20 dX4_spread_60 (fun v9 => ?_)
        refine dn_iload (pc := 63) 2 dX4_spread_63 rfl ?_
        refine dn_iald (pc := 65) v9 dX4_spread_65 (fun v10 => ?_)
        refine dn_iload (pc := 66) 1 dX4_spread_66 rfl ?_
        refine dn_iload (pc := 68) 0 dX4_spread_68 rfl ?_
        refine dn_iconst (pc := 70) (v := 1) dX4_spread_70 rfl ?_
        refine dn_isub (pc := 71) dX4_spread_71 ?_
        refine dn_callV0U (pc := 72) [.int p1, .int v10, .int (v6 / 12), .int ((v8 - v8 / 12 * 12) - 1)] r0 kRX4_78 (mX4_tryStep w x b r0 p1 v10 (v6 / 12) ((v8 - v8 / 12 * 12) - 1)) rfl rfl (Nat.le_of_ble_eq_true rfl) ⟨(Nat.le_of_ble_eq_true rfl), (Nat.le_of_ble_eq_true rfl)⟩ ⟨rfl, rfl, (Nat.le_of_ble_eq_true rfl), (Nat.le_of_ble_eq_true rfl)⟩ dX4_spread_72 (fun _ => ?_)
        refine dn_aload_n (pc := 75) r0 3 dX4_spread_75 rfl ?_
        refine dn_iload_n (pc := 76) 4 dX4_spread_76 rfl ?_
        refine dn_aload_n (pc := 77) r0 3 dX4_spread_77 rfl ?_
        refine dn_getR (pc := 78) r0 lRX4_20 dX4_spread_78 (fun v12 => ?_)
        refine dn_iload (pc := 81) 2 dX4_spread_81 rfl ?_
        refine dn_iald (pc := 83) v12 dX4_spread_83 (fun v13 => ?_)
        refine dn_iload (pc := 84) 1 dX4_spread_84 rfl ?_
        refine dn_iload (pc := 86) 0 dX4_spread_86 rfl ?_
        refine dn_iconst (pc := 88) (v := 1) dX4_spread_88 rfl ?_
        refine dn_iadd (pc := 89) dX4_spread_89 ?_
        refine dn_callV0U (pc := 90) [.int p1, .int v13, .int (v6 / 12), .int ((v8 - v8 / 12 * 12) + 1)] r0 kRX4_78 (mX4_tryStep w x b r0 p1 v13 (v6 / 12) ((v8 - v8 / 12 * 12) + 1)) rfl rfl (Nat.le_of_ble_eq_true rfl) ⟨(Nat.le_of_ble_eq_true rfl), (Nat.le_of_ble_eq_true rfl)⟩ ⟨rfl, rfl, (Nat.le_of_ble_eq_true rfl), (Nat.le_of_ble_eq_true rfl)⟩ dX4_spread_90 (fun _ => ?_)
        refine dn_aload_n (pc := 93) r0 3 dX4_spread_93 rfl ?_
        refine dn_iload_n (pc := 94) 4 dX4_spread_94 rfl ?_
        refine dn_aload_n (pc := 95) r0 3 dX4_spread_95 rfl ?_
        refine dn_getR (pc := 96) r0 lRX4_20 dX4_spread_96 (fun v15 => ?_)
        refine dn_iload (pc := 99) 2 dX4_spread_99 rfl ?_
        refine dn_iald (pc := 101) v15 dX4_spread_101 (fun v16 => ?_)
        refine dn_iload (pc := 102) 1 dX4_spread_102 rfl ?_
        refine dn_iconst (pc := 104) (v := 1) dX4_spread_104 rfl ?_
        refine dn_isub (pc := 105) dX4_spread_105 ?_
        refine dn_iload (pc := 106) 0 dX4_spread_106 rfl ?_
        refine dn_callV0U (pc := 108) [.int p1, .int v16, .int ((v6 / 12) - 1), .int (v8 - v8 / 12 * 12)] r0 kRX4_78 (mX4_tryStep w x b r0 p1 v16 ((v6 / 12) - 1) (v8 - v8 / 12 * 12)) rfl rfl (Nat.le_of_ble_eq_true rfl) ⟨(Nat.le_of_ble_eq_true rfl), (Nat.le_of_ble_eq_true rfl)⟩ ⟨rfl, rfl, (Nat.le_of_ble_eq_true rfl), (Nat.le_of_ble_eq_true rfl)⟩ dX4_spread_108 (fun _ => ?_)
        refine dn_aload_n (pc := 111) r0 3 dX4_spread_111 rfl ?_
        refine dn_iload_n (pc := 112) 4 dX4_spread_112 rfl ?_
        refine dn_aload_n (pc := 113) r0 3 dX4_spread_113 rfl ?_
        refine dn_getR (pc := 114) r0 lRX4_20 dX4_spread_114 (fun v18 => ?_)
        refine dn_iload (pc := 117) 2 dX4_spread_117 rfl ?_
        refine dn_iald (pc := 119) v18 dX4_spread_119 (fun v19 => ?_)
        refine dn_iload (pc := 120) 1 dX4_spread_120 rfl ?_
        refine dn_iconst (pc := 122) (v := 1) dX4_spread_122 rfl ?_
        refine dn_iadd (pc := 123) dX4_spread_123 ?_
        refine dn_iload (pc := 124) 0 dX4_spread_124 rfl ?_
        refine dn_callV0U (pc := 126) [.int p1, .int v19, .int ((v6 / 12) + 1), .int (v8 - v8 / 12 * 12)] r0 kRX4_78 (mX4_tryStep w x b r0 p1 v19 ((v6 / 12) + 1) (v8 - v8 / 12 * 12)) rfl rfl (Nat.le_of_ble_eq_true rfl) ⟨(Nat.le_of_ble_eq_true rfl), (Nat.le_of_ble_eq_true rfl)⟩ ⟨rfl, rfl, (Nat.le_of_ble_eq_true rfl), (Nat.le_of_ble_eq_true rfl)⟩ dX4_spread_126 (fun _ => ?_)
        refine dn_iinc (pc := 129) (s14 + 1) 2 dX4_spread_129 rfl rfl (Nat.le_of_ble_eq_true rfl) (dnKp_of (lv2 := [(0, dnV b r0), (1, .int p1)]) [3, 4] rfl rfl) ?_
        refine dn_goto (pc := 132) 14 dX4_spread_132 rfl ?_
        refine dn_leaf ?_
        exact dn_lv [1, 2, 0] rfl (hK14 (s14 + 1))
  · exact dn_ret (Nat.le_of_ble_eq_true rfl) (Nat.le_of_ble_eq_true rfl) rfl dX4_spread_135
abbrev rmX4_paintRegion : Room := { frames := 5, cells := 0, slots := 0, locals := 118 }
def fX4_paintRegion_j151 (l0 : Option Nat) (l1 : Int32) (l9 : Int32) (s0 : Int32) (s1 : Bool) : dnM ((Int32 × Int32) ⊕ (Int32)) :=
  dnP (.inl ((s0 + (dnZ s1)), (l9 + 1)))
def fX4_paintRegion_j150 (l0 : Option Nat) (l1 : Int32) (l9 : Int32) (s0 : Int32) : dnM ((Int32 × Int32) ⊕ (Int32)) :=
  fX4_paintRegion_j151 l0 l1 l9 s0 false
def fX4_paintRegion_b87 (c0 : Option Nat) (c1 : Int32) (s87 : Int32 × Int32) : dnM ((Int32 × Int32) ⊕ (Int32)) :=
  dnB (dnGI c0 3 4) fun v14 =>
  if v14 ≤ s87.2 then
  (dnP (.inr s87.1))
  else
  (dnB (dnGR c0 3 0) fun v15 =>
  dnB (dnGR c0 3 3) fun v16 =>
  dnB (dnAI v16 100 s87.2) fun v17 =>
  dnB (dnNz 12) fun _ =>
  dnB (dnCv v15 7 (fX9_rowAt v15 c1 (v17 / 12))) fun v18 =>
  v18.elim
  (fX4_paintRegion_j150 c0 c1 s87.2 s87.1)
  (fun v19 => dnB (dnGR c0 3 3) fun v20 =>
  dnB (dnAI v20 100 s87.2) fun v21 =>
  dnB (dnNz 12) fun _ =>
  dnB (dnGR c0 3 2) fun v22 =>
  dnB (dnCv (some v19) 4 (fX5_accept (some v19) (v21 - v21 / 12 * 12) v22 0)) fun v23 =>
  if v23 = true then
  (fX4_paintRegion_j151 c0 c1 s87.2 s87.1 true)
  else
  (fX4_paintRegion_j150 c0 c1 s87.2 s87.1)))
def fX4_paintRegion (r0 : Option Nat) (p1 : Int32) (p2 : Int32) (p3 : Int32) (p4 : Int32) (p5 : Int64) : dnM Int32 :=
  dnB (fX12_isGrid p1) fun v1 =>
  if v1 = true then
  (dnB (fX12_isSort p4) fun v2 =>
  if v2 = true then
  (dnB (dnGR r0 3 0) fun v3 =>
  dnB (dnCv v3 7 (fX9_rowAt v3 p1 p2)) fun v4 =>
  v4.elim
  (dnB (dnGR r0 3 0) fun v6 =>
  dnB (dnCv v6 7 (fX9_rowFault v6 p1 p2)) fun v7 =>
  dnP v7)
  (fun v5 => dnB (dnCv (some v5) 4 (fX5_hasCell (some v5) p3)) fun v8 =>
  if v8 = true then
  (dnB (dnGR r0 3 5) fun v9 =>
  dnB (fJ7_fill_53178 v9 0) fun _ =>
  dnB (dnCv r0 3 (fX4_spread r0 p1 p2 p3)) fun _ =>
  dnB (dnGR r0 3 2) fun v12 =>
  dnB (dnCv v12 4 (fX5_become v12 p4 p5)) fun _ =>
  dnB (dnIt 1000 (fX4_paintRegion_b87 r0 p1) (0, 0)) fun q87 =>
  dnP q87)
  else
  (dnP (-6))))
  else
  (dnP (-1)))
  else
  (dnP (-1))
abbrev jX4_paintRegion (w : dnWd) (x : dnX) (b : Nat) := dnD w x b (fun _ => True) cX4_paintRegion RX4 11 rmX4_paintRegion "paintRegion" eI
set_option maxHeartbeats 4000000 in
set_option maxRecDepth 100000 in
theorem mX4_paintRegion (w : dnWd) (x : dnX) (b : Nat) (r0 : Option Nat) (p1 : Int32) (p2 : Int32) (p3 : Int32) (p4 : Int32) (p5 : Int64) : dnMt w x b yX4_paintRegion cX4_paintRegion 11 (some .int) rmX4_paintRegion eI [dnV b r0, .int p1, .int p2, .int p3, .int p4, .long p5] (fX4_paintRegion r0 p1 p2 p3 p4 p5) := by
  have hlv : lv_args 0 [dnV b r0, .int p1, .int p2, .int p3, .int p4, .long p5] = [(0, dnV b r0), (1, .int p1), (2, .int p2), (3, .int p3), (4, .int p4), (5, .long p5)] := by cases r0 <;> rfl
  refine dn_mt (by decide +kernel) roI (by cases r0 <;> exact (Nat.le_of_ble_eq_true rfl)) ?_
  rw [hlv]
  refine dn_top ?_
  show jX4_paintRegion w x b 0 0 0 _ [] (dnB _ dnP)
  unfold fX4_paintRegion
  refine dn_iload_n (pc := 0) 1 dX4_paintRegion_0 rfl ?_
  refine dn_callSN0Z (pc := 1) [.int p1]  kRX4_99 (mX12_isGrid w x b p1) rfl rfl (Nat.le_of_ble_eq_true rfl) ⟨(Nat.le_of_ble_eq_true rfl), (Nat.le_of_ble_eq_true rfl)⟩ ⟨rfl, rfl, (Nat.le_of_ble_eq_true rfl), (Nat.le_of_ble_eq_true rfl)⟩ dX4_paintRegion_1 (fun v1 => ?_)
  refine dn_ifz_eq (pc := 4) 15 dX4_paintRegion_4 rfl (fun _ => ?_) (fun _ => ?_)
  · refine dn_iload (pc := 7) 4 dX4_paintRegion_7 rfl ?_
    refine dn_callSN0Z (pc := 9) [.int p4]  kRX4_102 (mX12_isSort w x b p4) rfl rfl (Nat.le_of_ble_eq_true rfl) ⟨(Nat.le_of_ble_eq_true rfl), (Nat.le_of_ble_eq_true rfl)⟩ ⟨rfl, rfl, (Nat.le_of_ble_eq_true rfl), (Nat.le_of_ble_eq_true rfl)⟩ dX4_paintRegion_9 (fun v2 => ?_)
    refine dn_ifz_ne (pc := 12) 17 dX4_paintRegion_12 rfl (fun _ => ?_) (fun _ => ?_)
    · refine dn_aload_n (pc := 17) r0 0 dX4_paintRegion_17 rfl ?_
      refine dn_getR (pc := 18) r0 lRX4_27 dX4_paintRegion_18 (fun v3 => ?_)
      refine dn_iload_n (pc := 21) 1 dX4_paintRegion_21 rfl ?_
      refine dn_iload_n (pc := 22) 2 dX4_paintRegion_22 rfl ?_
      refine dn_callV0R (pc := 23) [.int p1, .int p2] v3 kRX4_35 (mX9_rowAt w x b v3 p1 p2) rfl rfl (Nat.le_of_ble_eq_true rfl) ⟨(Nat.le_of_ble_eq_true rfl), (Nat.le_of_ble_eq_true rfl)⟩ ⟨rfl, rfl, (Nat.le_of_ble_eq_true rfl), (Nat.le_of_ble_eq_true rfl)⟩ dX4_paintRegion_23 (fun v4 => ?_)
      refine dn_astore (pc := 26) v4 dX4_paintRegion_26 (Nat.le_of_ble_eq_true rfl) (dnKp_of (lv2 := [(0, dnV b r0), (1, .int p1), (2, .int p2), (3, .int p3), (4, .int p4), (5, .long p5)]) [0, 1, 2, 3, 4, 5] rfl rfl) ?_
      refine dn_aload (pc := 28) v4 0 dX4_paintRegion_28 rfl ?_
      refine dn_ifnonnull (pc := 30) v4 43 dX4_paintRegion_30 rfl (fun e_ => ?_) (fun v5 e_ => ?_)
      · subst e_
        refine dn_aload_n (pc := 33) r0 1 dX4_paintRegion_33 rfl ?_
        refine dn_getR (pc := 34) r0 lRX4_27 dX4_paintRegion_34 (fun v6 => ?_)
        refine dn_iload_n (pc := 37) 2 dX4_paintRegion_37 rfl ?_
        refine dn_iload_n (pc := 38) 3 dX4_paintRegion_38 rfl ?_
        refine dn_callV0I (pc := 39) [.int p1, .int p2] v6 kRX4_41 (mX9_rowFault w x b v6 p1 p2) rfl rfl (Nat.le_of_ble_eq_true rfl) ⟨(Nat.le_of_ble_eq_true rfl), (Nat.le_of_ble_eq_true rfl)⟩ ⟨rfl, rfl, (Nat.le_of_ble_eq_true rfl), (Nat.le_of_ble_eq_true rfl)⟩ dX4_paintRegion_39 (fun v7 => ?_)
        exact dn_ret (Nat.le_of_ble_eq_true rfl) (Nat.le_of_ble_eq_true rfl) rfl dX4_paintRegion_42
      · subst e_
        refine dn_aload (pc := 43) (some v5) 0 dX4_paintRegion_43 rfl ?_
        refine dn_iload_n (pc := 45) 4 dX4_paintRegion_45 rfl ?_
        refine dn_callV0Z (pc := 46) [.int p3] (some v5) kRX4_45 (mX5_hasCell w x b (some v5) p3) rfl rfl (Nat.le_of_ble_eq_true rfl) ⟨(Nat.le_of_ble_eq_true rfl), (Nat.le_of_ble_eq_true rfl)⟩ ⟨rfl, rfl, (Nat.le_of_ble_eq_true rfl), (Nat.le_of_ble_eq_true rfl)⟩ dX4_paintRegion_46 (fun v8 => ?_)
        refine dn_ifz_ne (pc := 49) 55 dX4_paintRegion_49 rfl (fun _ => ?_) (fun _ => ?_)
        · refine dn_aload_n (pc := 55) r0 1 dX4_paintRegion_55 rfl ?_
          refine dn_getR (pc := 56) r0 lRX4_24 dX4_paintRegion_56 (fun v9 => ?_)
          refine dn_iconst (pc := 59) (v := 0) dX4_paintRegion_59 rfl ?_
          refine dn_callS0U (pc := 60) [dnV b v9, .int 0]  kRX4_49 (mJ7_fill_53178 w x b v9 0) rfl rfl (Nat.le_of_ble_eq_true rfl) ⟨(Nat.le_of_ble_eq_true rfl), (Nat.le_of_ble_eq_true rfl)⟩ ⟨rfl, rfl, (Nat.le_of_ble_eq_true rfl), (Nat.le_of_ble_eq_true rfl)⟩ dX4_paintRegion_60 (fun _ => ?_)
          refine dn_aload_n (pc := 63) r0 1 dX4_paintRegion_63 rfl ?_
          refine dn_iload_n (pc := 64) 2 dX4_paintRegion_64 rfl ?_
          refine dn_iload_n (pc := 65) 3 dX4_paintRegion_65 rfl ?_
          refine dn_iload_n (pc := 66) 4 dX4_paintRegion_66 rfl ?_
          refine dn_callV0U (pc := 67) [.int p1, .int p2, .int p3] r0 kRX4_55 (mX4_spread w x b r0 p1 p2 p3) rfl rfl (Nat.le_of_ble_eq_true rfl) ⟨(Nat.le_of_ble_eq_true rfl), (Nat.le_of_ble_eq_true rfl)⟩ ⟨rfl, rfl, (Nat.le_of_ble_eq_true rfl), (Nat.le_of_ble_eq_true rfl)⟩ dX4_paintRegion_67 (fun _ => ?_)
          refine dn_aload_n (pc := 70) r0 1 dX4_paintRegion_70 rfl ?_
          refine dn_getR (pc := 71) r0 lRX4_14 dX4_paintRegion_71 (fun v12 => ?_)
          refine dn_iload (pc := 74) 5 dX4_paintRegion_74 rfl ?_
          refine dn_lload (pc := 76) 6 dX4_paintRegion_76 rfl ?_
          refine dn_callV0U (pc := 78) [.int p4, .long p5] v12 kRX4_105 (mX5_become w x b v12 p4 p5) rfl rfl (Nat.le_of_ble_eq_true rfl) ⟨(Nat.le_of_ble_eq_true rfl), (Nat.le_of_ble_eq_true rfl)⟩ ⟨rfl, rfl, (Nat.le_of_ble_eq_true rfl), (Nat.le_of_ble_eq_true rfl)⟩ dX4_paintRegion_78 (fun _ => ?_)
          refine dn_iconst (pc := 81) (v := 0) dX4_paintRegion_81 rfl ?_
          refine dn_istore (pc := 82) dX4_paintRegion_82 (Nat.le_of_ble_eq_true rfl) (dnKp_of (lv2 := [(0, dnV b r0), (1, .int p1)]) [1, 2] rfl rfl) ?_
          refine dn_iconst (pc := 84) (v := 0) dX4_paintRegion_84 rfl ?_
          refine dn_istore (pc := 85) dX4_paintRegion_85 (Nat.le_of_ble_eq_true rfl) (dnKp_nb 0 rfl rfl rfl (dnKp_of (lv2 := [(0, dnV b r0), (1, .int p1)]) [1, 2] rfl rfl)) ?_
          refine dn_assoc ?_
          refine dn_lv [2, 3, 1, 0] (lv2 := (fun s => [(0, dnV b r0), (1, .int p1), (8, .int s.1), (9, .int s.2)]) (0, 0)) rfl ?_
          refine dn_loopE (pc := 87) (body := fX4_paintRegion_b87 r0 p1) 160 (fun s => [(0, dnV b r0), (1, .int p1), (8, .int s.1), (9, .int s.2)]) (fun q => [(8, .int q)]) (fun s87 K87 E87 hK87 hE87 => ?_) (fun q87 => ?_) 1000 (0, 0)
          · unfold fX4_paintRegion_b87
            have hj151 : ∀ (l9 : Int32) (s0 : Int32) (s1 : Bool), jX4_paintRegion w x b 151 0 0 [(0, dnV b r0), (1, .int p1), (9, .int l9)] [.int (dnZ s1), .int s0] (dnB (fX4_paintRegion_j151 r0 p1 l9 s0 s1) (dnKo K87 E87)) := by
              intro l9 s0 s1
              unfold fX4_paintRegion_j151
              refine dn_iadd (pc := 151) dX4_paintRegion_151 ?_
              refine dn_istore (pc := 152) dX4_paintRegion_152 (Nat.le_of_ble_eq_true rfl) (dnKp_of (lv2 := [(0, dnV b r0), (1, .int p1), (9, .int l9)]) [0, 1, 2] rfl rfl) ?_
              refine dn_iinc (pc := 154) (l9 + 1) 3 dX4_paintRegion_154 rfl rfl (Nat.le_of_ble_eq_true rfl) (dnKp_nb 0 rfl rfl rfl (dnKp_of (lv2 := [(0, dnV b r0), (1, .int p1)]) [1, 2] rfl rfl)) ?_
              refine dn_goto (pc := 157) 87 dX4_paintRegion_157 rfl ?_
              refine dn_leaf ?_
              exact dn_lv [2, 3, 1, 0] rfl (hK87 ((s0 + (dnZ s1)), (l9 + 1)))
            have hj150 : ∀ (l9 : Int32) (s0 : Int32), jX4_paintRegion w x b 150 0 0 [(0, dnV b r0), (1, .int p1), (9, .int l9)] [.int s0] (dnB (fX4_paintRegion_j150 r0 p1 l9 s0) (dnKo K87 E87)) := by
              intro l9 s0
              unfold fX4_paintRegion_j150
              refine dn_iconst (pc := 150) (v := 0) dX4_paintRegion_150 rfl ?_
              exact dn_lv [0, 1, 2] rfl (hj151 l9 s0 false)
            refine dn_iload (pc := 87) 3 dX4_paintRegion_87 rfl ?_
            refine dn_aload_n (pc := 89) r0 0 dX4_paintRegion_89 rfl ?_
            refine dn_getI (pc := 90) r0 lRX4_59 dX4_paintRegion_90 (fun v14 => ?_)
            refine dn_icmp_ge (pc := 93) 160 dX4_paintRegion_93 rfl (fun _ => ?_) (fun _ => ?_)
            · refine dn_leaf ?_
              exact dn_lv [2] rfl (hE87 s87.1)
            · refine dn_aload_n (pc := 96) r0 0 dX4_paintRegion_96 rfl ?_
              refine dn_getR (pc := 97) r0 lRX4_27 dX4_paintRegion_97 (fun v15 => ?_)
              refine dn_iload_n (pc := 100) 1 dX4_paintRegion_100 rfl ?_
              refine dn_aload_n (pc := 101) r0 0 dX4_paintRegion_101 rfl ?_
              refine dn_getR (pc := 102) r0 lRX4_20 dX4_paintRegion_102 (fun v16 => ?_)
              refine dn_iload (pc := 105) 3 dX4_paintRegion_105 rfl ?_
              refine dn_iald (pc := 107) v16 dX4_paintRegion_107 (fun v17 => ?_)
              refine dn_bipush (pc := 108) (v := 12) dX4_paintRegion_108 rfl ?_
              refine dn_idiv (pc := 110) dX4_paintRegion_110 ?_
              refine dn_callV0R (pc := 111) [.int p1, .int (v17 / 12)] v15 kRX4_35 (mX9_rowAt w x b v15 p1 (v17 / 12)) rfl rfl (Nat.le_of_ble_eq_true rfl) ⟨(Nat.le_of_ble_eq_true rfl), (Nat.le_of_ble_eq_true rfl)⟩ ⟨rfl, rfl, (Nat.le_of_ble_eq_true rfl), (Nat.le_of_ble_eq_true rfl)⟩ dX4_paintRegion_111 (fun v18 => ?_)
              refine dn_astore (pc := 114) v18 dX4_paintRegion_114 (Nat.le_of_ble_eq_true rfl) (dnKp_nb 3 rfl rfl rfl (dnKp_of (lv2 := [(0, dnV b r0), (1, .int p1), (8, .int s87.1)]) [0, 1, 2] rfl rfl)) ?_
              refine dn_iload (pc := 116) 4 dX4_paintRegion_116 rfl ?_
              refine dn_aload (pc := 118) v18 0 dX4_paintRegion_118 rfl ?_
              refine dn_ifnull (pc := 120) v18 150 dX4_paintRegion_120 rfl (fun e_ => ?_) (fun v19 e_ => ?_)
              · subst e_
                exact dn_lv [2, 3, 1] rfl (hj150 s87.2 s87.1)
              · subst e_
                refine dn_aload (pc := 123) (some v19) 0 dX4_paintRegion_123 rfl ?_
                refine dn_aload_n (pc := 125) r0 2 dX4_paintRegion_125 rfl ?_
                refine dn_getR (pc := 126) r0 lRX4_20 dX4_paintRegion_126 (fun v20 => ?_)
                refine dn_iload (pc := 129) 1 dX4_paintRegion_129 rfl ?_
                refine dn_iald (pc := 131) v20 dX4_paintRegion_131 (fun v21 => ?_)
                refine dn_bipush (pc := 132) (v := 12) dX4_paintRegion_132 rfl ?_
                refine dn_irem (pc := 134) dX4_paintRegion_134 ?_
                refine dn_aload_n (pc := 135) r0 2 dX4_paintRegion_135 rfl ?_
                refine dn_getR (pc := 136) r0 lRX4_14 dX4_paintRegion_136 (fun v22 => ?_)
                refine dn_iconst (pc := 139) (v := 0) dX4_paintRegion_139 rfl ?_
                refine dn_callV0Z (pc := 140) [.int (v21 - v21 / 12 * 12), dnV b v22, .int 0] (some v19) kRX4_109 (mX5_accept w x b (some v19) (v21 - v21 / 12 * 12) v22 0) rfl rfl (Nat.le_of_ble_eq_true rfl) ⟨(Nat.le_of_ble_eq_true rfl), (Nat.le_of_ble_eq_true rfl)⟩ ⟨rfl, rfl, (Nat.le_of_ble_eq_true rfl), (Nat.le_of_ble_eq_true rfl)⟩ dX4_paintRegion_140 (fun v23 => ?_)
                refine dn_ifz_eq (pc := 143) 150 dX4_paintRegion_143 rfl (fun _ => ?_) (fun _ => ?_)
                · refine dn_iconst (pc := 146) (v := 1) dX4_paintRegion_146 rfl ?_
                  refine dn_goto (pc := 147) 151 dX4_paintRegion_147 rfl ?_
                  exact dn_lv [2, 3, 1] rfl (hj151 s87.2 s87.1 true)
                · exact dn_lv [2, 3, 1] rfl (hj150 s87.2 s87.1)
          · refine dn_iload (pc := 160) 0 dX4_paintRegion_160 rfl ?_
            exact dn_ret (Nat.le_of_ble_eq_true rfl) (Nat.le_of_ble_eq_true rfl) rfl dX4_paintRegion_162
        · refine dn_bipush (pc := 52) (v := -6) dX4_paintRegion_52 rfl ?_
          exact dn_ret (Nat.le_of_ble_eq_true rfl) (Nat.le_of_ble_eq_true rfl) rfl dX4_paintRegion_54
    · refine dn_iconst (pc := 15) (v := -1) dX4_paintRegion_15 rfl ?_
      exact dn_ret (Nat.le_of_ble_eq_true rfl) (Nat.le_of_ble_eq_true rfl) rfl dX4_paintRegion_16
  · refine dn_iconst (pc := 15) (v := -1) dX4_paintRegion_15 rfl ?_
    exact dn_ret (Nat.le_of_ble_eq_true rfl) (Nat.le_of_ble_eq_true rfl) rfl dX4_paintRegion_16
abbrev rmX12_paint : Room := { frames := 6, cells := 0, slots := 0, locals := 148 }
def fX12_paint (r0 : Option Nat) (p1 : Int32) (p2 : Int32) (p3 : Int32) (p4 : Int32) (p5 : Int64) : dnM Int32 :=
  dnB (dnGR r0 10 8) fun v1 =>
  dnB (dnCv v1 3 (fX4_paintRegion v1 p1 p2 p3 p4 p5)) fun v2 =>
  dnB (dnCv r0 10 (fX12_tally r0 v2)) fun v3 =>
  dnP v3
abbrev jX12_paint (w : dnWd) (x : dnX) (b : Nat) := dnD w x b (fun _ => True) cX12_paint RX12 7 rmX12_paint "paint" eI
set_option maxHeartbeats 4000000 in
set_option maxRecDepth 100000 in
theorem mX12_paint (w : dnWd) (x : dnX) (b : Nat) (r0 : Option Nat) (p1 : Int32) (p2 : Int32) (p3 : Int32) (p4 : Int32) (p5 : Int64) : dnMt w x b yX12_paint cX12_paint 7 (some .int) rmX12_paint eI [dnV b r0, .int p1, .int p2, .int p3, .int p4, .long p5] (fX12_paint r0 p1 p2 p3 p4 p5) := by
  have hlv : lv_args 0 [dnV b r0, .int p1, .int p2, .int p3, .int p4, .long p5] = [(0, dnV b r0), (1, .int p1), (2, .int p2), (3, .int p3), (4, .int p4), (5, .long p5)] := by cases r0 <;> rfl
  refine dn_mt (by decide +kernel) roI (by cases r0 <;> exact (Nat.le_of_ble_eq_true rfl)) ?_
  rw [hlv]
  refine dn_top ?_
  show jX12_paint w x b 0 0 0 _ [] (dnB _ dnP)
  unfold fX12_paint
  refine dn_aload_n (pc := 0) r0 0 dX12_paint_0 rfl ?_
  refine dn_aload_n (pc := 1) r0 0 dX12_paint_1 rfl ?_
  refine dn_getR (pc := 2) r0 lRX12_63 dX12_paint_2 (fun v1 => ?_)
  refine dn_iload_n (pc := 5) 1 dX12_paint_5 rfl ?_
  refine dn_iload_n (pc := 6) 2 dX12_paint_6 rfl ?_
  refine dn_iload_n (pc := 7) 3 dX12_paint_7 rfl ?_
  refine dn_iload (pc := 8) 4 dX12_paint_8 rfl ?_
  refine dn_lload (pc := 10) 5 dX12_paint_10 rfl ?_
  refine dn_callV0I (pc := 12) [.int p1, .int p2, .int p3, .int p4, .long p5] v1 kRX12_197 (mX4_paintRegion w x b v1 p1 p2 p3 p4 p5) rfl rfl (Nat.le_of_ble_eq_true rfl) ⟨(Nat.le_of_ble_eq_true rfl), (Nat.le_of_ble_eq_true rfl)⟩ ⟨rfl, rfl, (Nat.le_of_ble_eq_true rfl), (Nat.le_of_ble_eq_true rfl)⟩ dX12_paint_12 (fun v2 => ?_)
  refine dn_callV0I (pc := 15) [.int v2] r0 kRX12_91 (mX12_tally w x b r0 v2) rfl rfl (Nat.le_of_ble_eq_true rfl) ⟨(Nat.le_of_ble_eq_true rfl), (Nat.le_of_ble_eq_true rfl)⟩ ⟨rfl, rfl, (Nat.le_of_ble_eq_true rfl), (Nat.le_of_ble_eq_true rfl)⟩ dX12_paint_15 (fun v3 => ?_)
  exact dn_ret (Nat.le_of_ble_eq_true rfl) (Nat.le_of_ble_eq_true rfl) rfl dX12_paint_18
abbrev rmX12_passed : Room := { frames := 0, cells := 0, slots := 0, locals := 0 }
def fX12_passed (r0 : Option Nat) : dnM Int32 :=
  dnB (dnGR r0 10 3) fun v1 =>
  dnB (dnGI v1 1 2) fun v2 =>
  dnP v2
abbrev jX12_passed (w : dnWd) (x : dnX) (b : Nat) := dnD w x b (fun _ => True) cX12_passed RX12 1 rmX12_passed "passed" eI
set_option maxHeartbeats 4000000 in
set_option maxRecDepth 100000 in
theorem mX12_passed (w : dnWd) (x : dnX) (b : Nat) (r0 : Option Nat) : dnMt w x b yX12_passed cX12_passed 1 (some .int) rmX12_passed eI [dnV b r0] (fX12_passed r0) := by
  have hlv : lv_args 0 [dnV b r0] = [(0, dnV b r0)] := by cases r0 <;> rfl
  refine dn_mt (by decide +kernel) roI (by cases r0 <;> exact (Nat.le_of_ble_eq_true rfl)) ?_
  rw [hlv]
  refine dn_top ?_
  show jX12_passed w x b 0 0 0 _ [] (dnB _ dnP)
  unfold fX12_passed
  refine dn_aload_n (pc := 0) r0 0 dX12_passed_0 rfl ?_
  refine dn_getR (pc := 1) r0 lRX12_26 dX12_passed_1 (fun v1 => ?_)
  refine dn_getI (pc := 4) v1 lRX12_263 dX12_passed_4 (fun v2 => ?_)
  exact dn_ret (Nat.le_of_ble_eq_true rfl) (Nat.le_of_ble_eq_true rfl) rfl dX12_passed_7
abbrev rmX4_regionOf : Room := { frames := 5, cells := 0, slots := 0, locals := 118 }
def fX4_regionOf_b64 (c0 : Option Nat) (s64 : Int32 × Int32) : dnM ((Int32 × Int32) ⊕ (Int32)) :=
  dnB (dnGI c0 3 4) fun v12 =>
  if v12 ≤ s64.2 then
  (dnP (.inr s64.1))
  else
  (dnB (dnGR c0 3 3) fun v13 =>
  dnB (dnAI v13 100 s64.2) fun v14 =>
  dnB (fJ9_min_7cf53 s64.1 v14) fun v15 =>
  dnP (.inl (v15, (s64.2 + 1))))
def fX4_regionOf (r0 : Option Nat) (p1 : Int32) (p2 : Int32) (p3 : Int32) : dnM Int32 :=
  dnB (dnGR r0 3 0) fun v1 =>
  dnB (dnCv v1 7 (fX9_rowAt v1 p1 p2)) fun v2 =>
  v2.elim
  (dnB (dnGR r0 3 0) fun v4 =>
  dnB (dnCv v4 7 (fX9_rowFault v4 p1 p2)) fun v5 =>
  dnP v5)
  (fun v3 => dnB (dnCv (some v3) 4 (fX5_hasCell (some v3) p3)) fun v6 =>
  if v6 = true then
  (dnB (dnGR r0 3 5) fun v7 =>
  dnB (fJ7_fill_53178 v7 0) fun _ =>
  dnB (dnCv r0 3 (fX4_spread r0 p1 p2 p3)) fun _ =>
  dnB (dnGR r0 3 3) fun v10 =>
  dnB (dnAI v10 100 0) fun v11 =>
  dnB (dnIt 1000 (fX4_regionOf_b64 r0) (v11, 1)) fun q64 =>
  dnB (dnGR r0 3 1) fun v16 =>
  dnB (dnNz 12) fun _ =>
  dnB (dnNz 12) fun _ =>
  dnB (dnPL v16 1 0 ((((100 * (q64 / 12)) + (q64 - q64 / 12 * 12)) : Int32).toInt64)) fun _ =>
  dnB (dnGI r0 3 4) fun v17 =>
  dnP v17)
  else
  (dnP (-6)))
abbrev jX4_regionOf (w : dnWd) (x : dnX) (b : Nat) := dnD w x b (fun _ => True) cX4_regionOf RX4 7 rmX4_regionOf "regionOf" eI
set_option maxHeartbeats 4000000 in
set_option maxRecDepth 100000 in
theorem mX4_regionOf (w : dnWd) (x : dnX) (b : Nat) (r0 : Option Nat) (p1 : Int32) (p2 : Int32) (p3 : Int32) : dnMt w x b yX4_regionOf cX4_regionOf 7 (some .int) rmX4_regionOf eI [dnV b r0, .int p1, .int p2, .int p3] (fX4_regionOf r0 p1 p2 p3) := by
  have hlv : lv_args 0 [dnV b r0, .int p1, .int p2, .int p3] = [(0, dnV b r0), (1, .int p1), (2, .int p2), (3, .int p3)] := by cases r0 <;> rfl
  refine dn_mt (by decide +kernel) roI (by cases r0 <;> exact (Nat.le_of_ble_eq_true rfl)) ?_
  rw [hlv]
  refine dn_top ?_
  show jX4_regionOf w x b 0 0 0 _ [] (dnB _ dnP)
  unfold fX4_regionOf
  refine dn_aload_n (pc := 0) r0 0 dX4_regionOf_0 rfl ?_
  refine dn_getR (pc := 1) r0 lRX4_27 dX4_regionOf_1 (fun v1 => ?_)
  refine dn_iload_n (pc := 4) 1 dX4_regionOf_4 rfl ?_
  refine dn_iload_n (pc := 5) 2 dX4_regionOf_5 rfl ?_
  refine dn_callV0R (pc := 6) [.int p1, .int p2] v1 kRX4_35 (mX9_rowAt w x b v1 p1 p2) rfl rfl (Nat.le_of_ble_eq_true rfl) ⟨(Nat.le_of_ble_eq_true rfl), (Nat.le_of_ble_eq_true rfl)⟩ ⟨rfl, rfl, (Nat.le_of_ble_eq_true rfl), (Nat.le_of_ble_eq_true rfl)⟩ dX4_regionOf_6 (fun v2 => ?_)
  refine dn_astore (pc := 9) v2 dX4_regionOf_9 (Nat.le_of_ble_eq_true rfl) (dnKp_nb 3 rfl rfl rfl (dnKp_of (lv2 := [(0, dnV b r0), (1, .int p1), (2, .int p2)]) [0, 1, 2] rfl rfl)) ?_
  refine dn_aload (pc := 11) v2 0 dX4_regionOf_11 rfl ?_
  refine dn_ifnonnull (pc := 13) v2 26 dX4_regionOf_13 rfl (fun e_ => ?_) (fun v3 e_ => ?_)
  · subst e_
    refine dn_aload_n (pc := 16) r0 2 dX4_regionOf_16 rfl ?_
    refine dn_getR (pc := 17) r0 lRX4_27 dX4_regionOf_17 (fun v4 => ?_)
    refine dn_iload_n (pc := 20) 3 dX4_regionOf_20 rfl ?_
    refine dn_iload_n (pc := 21) 4 dX4_regionOf_21 rfl ?_
    refine dn_callV0I (pc := 22) [.int p1, .int p2] v4 kRX4_41 (mX9_rowFault w x b v4 p1 p2) rfl rfl (Nat.le_of_ble_eq_true rfl) ⟨(Nat.le_of_ble_eq_true rfl), (Nat.le_of_ble_eq_true rfl)⟩ ⟨rfl, rfl, (Nat.le_of_ble_eq_true rfl), (Nat.le_of_ble_eq_true rfl)⟩ dX4_regionOf_22 (fun v5 => ?_)
    exact dn_ret (Nat.le_of_ble_eq_true rfl) (Nat.le_of_ble_eq_true rfl) rfl dX4_regionOf_25
  · subst e_
    refine dn_aload (pc := 26) (some v3) 0 dX4_regionOf_26 rfl ?_
    refine dn_iload_n (pc := 28) 1 dX4_regionOf_28 rfl ?_
    refine dn_callV0Z (pc := 29) [.int p3] (some v3) kRX4_45 (mX5_hasCell w x b (some v3) p3) rfl rfl (Nat.le_of_ble_eq_true rfl) ⟨(Nat.le_of_ble_eq_true rfl), (Nat.le_of_ble_eq_true rfl)⟩ ⟨rfl, rfl, (Nat.le_of_ble_eq_true rfl), (Nat.le_of_ble_eq_true rfl)⟩ dX4_regionOf_29 (fun v6 => ?_)
    refine dn_ifz_ne (pc := 32) 38 dX4_regionOf_32 rfl (fun _ => ?_) (fun _ => ?_)
    · refine dn_aload_n (pc := 38) r0 2 dX4_regionOf_38 rfl ?_
      refine dn_getR (pc := 39) r0 lRX4_24 dX4_regionOf_39 (fun v7 => ?_)
      refine dn_iconst (pc := 42) (v := 0) dX4_regionOf_42 rfl ?_
      refine dn_callS0U (pc := 43) [dnV b v7, .int 0]  kRX4_49 (mJ7_fill_53178 w x b v7 0) rfl rfl (Nat.le_of_ble_eq_true rfl) ⟨(Nat.le_of_ble_eq_true rfl), (Nat.le_of_ble_eq_true rfl)⟩ ⟨rfl, rfl, (Nat.le_of_ble_eq_true rfl), (Nat.le_of_ble_eq_true rfl)⟩ dX4_regionOf_43 (fun _ => ?_)
      refine dn_aload_n (pc := 46) r0 2 dX4_regionOf_46 rfl ?_
      refine dn_iload_n (pc := 47) 3 dX4_regionOf_47 rfl ?_
      refine dn_iload_n (pc := 48) 4 dX4_regionOf_48 rfl ?_
      refine dn_iload_n (pc := 49) 1 dX4_regionOf_49 rfl ?_
      refine dn_callV0U (pc := 50) [.int p1, .int p2, .int p3] r0 kRX4_55 (mX4_spread w x b r0 p1 p2 p3) rfl rfl (Nat.le_of_ble_eq_true rfl) ⟨(Nat.le_of_ble_eq_true rfl), (Nat.le_of_ble_eq_true rfl)⟩ ⟨rfl, rfl, (Nat.le_of_ble_eq_true rfl), (Nat.le_of_ble_eq_true rfl)⟩ dX4_regionOf_50 (fun _ => ?_)
      refine dn_aload_n (pc := 53) r0 2 dX4_regionOf_53 rfl ?_
      refine dn_getR (pc := 54) r0 lRX4_20 dX4_regionOf_54 (fun v10 => ?_)
      refine dn_iconst (pc := 57) (v := 0) dX4_regionOf_57 rfl ?_
      refine dn_iald (pc := 58) v10 dX4_regionOf_58 (fun v11 => ?_)
      refine dn_istore (pc := 59) dX4_regionOf_59 (Nat.le_of_ble_eq_true rfl) (dnKp_of (lv2 := [(0, dnV b r0)]) [2] rfl rfl) ?_
      refine dn_iconst (pc := 61) (v := 1) dX4_regionOf_61 rfl ?_
      refine dn_istore (pc := 62) dX4_regionOf_62 (Nat.le_of_ble_eq_true rfl) (dnKp_nb 0 rfl rfl rfl (dnKp_of (lv2 := [(0, dnV b r0)]) [1] rfl rfl)) ?_
      refine dn_assoc ?_
      refine dn_lv [2, 1, 0] (lv2 := (fun s => [(0, dnV b r0), (5, .int s.1), (6, .int s.2)]) (v11, 1)) rfl ?_
      refine dn_loopE (pc := 64) (body := fX4_regionOf_b64 r0) 93 (fun s => [(0, dnV b r0), (5, .int s.1), (6, .int s.2)]) (fun q => [(0, dnV b r0), (5, .int q)]) (fun s64 K64 E64 hK64 hE64 => ?_) (fun q64 => ?_) 1000 (v11, 1)
      · unfold fX4_regionOf_b64
        refine dn_iload (pc := 64) 2 dX4_regionOf_64 rfl ?_
        refine dn_aload_n (pc := 66) r0 0 dX4_regionOf_66 rfl ?_
        refine dn_getI (pc := 67) r0 lRX4_59 dX4_regionOf_67 (fun v12 => ?_)
        refine dn_icmp_ge (pc := 70) 93 dX4_regionOf_70 rfl (fun _ => ?_) (fun _ => ?_)
        · refine dn_leaf ?_
          exact dn_lv [0, 1] rfl (hE64 s64.1)
        · refine dn_iload (pc := 73) 1 dX4_regionOf_73 rfl ?_
          refine dn_aload_n (pc := 75) r0 0 dX4_regionOf_75 rfl ?_
          refine dn_getR (pc := 76) r0 lRX4_20 dX4_regionOf_76 (fun v13 => ?_)
          refine dn_iload (pc := 79) 2 dX4_regionOf_79 rfl ?_
          refine dn_iald (pc := 81) v13 dX4_regionOf_81 (fun v14 => ?_)
          refine dn_callS0I (pc := 82) [.int s64.1, .int v14]  kRX4_63 (mJ9_min_7cf53 w x b s64.1 v14) rfl rfl (Nat.le_of_ble_eq_true rfl) ⟨(Nat.le_of_ble_eq_true rfl), (Nat.le_of_ble_eq_true rfl)⟩ ⟨rfl, rfl, (Nat.le_of_ble_eq_true rfl), (Nat.le_of_ble_eq_true rfl)⟩ dX4_regionOf_82 (fun v15 => ?_)
          refine dn_istore (pc := 85) dX4_regionOf_85 (Nat.le_of_ble_eq_true rfl) (dnKp_of (lv2 := [(0, dnV b r0), (6, .int s64.2)]) [0, 2] rfl rfl) ?_
          refine dn_iinc (pc := 87) (s64.2 + 1) 2 dX4_regionOf_87 rfl rfl (Nat.le_of_ble_eq_true rfl) (dnKp_nb 0 rfl rfl rfl (dnKp_of (lv2 := [(0, dnV b r0)]) [1] rfl rfl)) ?_
          refine dn_goto (pc := 90) 64 dX4_regionOf_90 rfl ?_
          refine dn_leaf ?_
          exact dn_lv [2, 1, 0] rfl (hK64 (v15, (s64.2 + 1)))
      · refine dn_aload_n (pc := 93) r0 0 dX4_regionOf_93 rfl ?_
        refine dn_getR (pc := 94) r0 lRX4_31 dX4_regionOf_94 (fun v16 => ?_)
        refine dn_bipush (pc := 97) (v := 100) dX4_regionOf_97 rfl ?_
        refine dn_iload (pc := 99) 1 dX4_regionOf_99 rfl ?_
        refine dn_bipush (pc := 101) (v := 12) dX4_regionOf_101 rfl ?_
        refine dn_idiv (pc := 103) dX4_regionOf_103 ?_
        refine dn_imul (pc := 104) dX4_regionOf_104 ?_
        refine dn_iload (pc := 105) 1 dX4_regionOf_105 rfl ?_
        refine dn_bipush (pc := 107) (v := 12) dX4_regionOf_107 rfl ?_
        refine dn_irem (pc := 109) dX4_regionOf_109 ?_
        refine dn_iadd (pc := 110) dX4_regionOf_110 ?_
        refine dn_i2l (pc := 111) dX4_regionOf_111 ?_
        refine dn_putL (pc := 112) v16 lRX4_68 dX4_regionOf_112 ?_
        refine dn_aload_n (pc := 115) r0 0 dX4_regionOf_115 rfl ?_
        refine dn_getI (pc := 116) r0 lRX4_59 dX4_regionOf_116 (fun v17 => ?_)
        exact dn_ret (Nat.le_of_ble_eq_true rfl) (Nat.le_of_ble_eq_true rfl) rfl dX4_regionOf_119
    · refine dn_bipush (pc := 35) (v := -6) dX4_regionOf_35 rfl ?_
      exact dn_ret (Nat.le_of_ble_eq_true rfl) (Nat.le_of_ble_eq_true rfl) rfl dX4_regionOf_37
abbrev rmX12_patch : Room := { frames := 6, cells := 0, slots := 0, locals := 144 }
def fX12_patch (r0 : Option Nat) (p1 : Int32) (p2 : Int32) (p3 : Int32) : dnM Int32 :=
  dnB (dnGR r0 10 8) fun v1 =>
  dnB (dnCv v1 3 (fX4_regionOf v1 p1 p2 p3)) fun v2 =>
  dnB (dnCv r0 10 (fX12_tally r0 v2)) fun v3 =>
  dnP v3
abbrev jX12_patch (w : dnWd) (x : dnX) (b : Nat) := dnD w x b (fun _ => True) cX12_patch RX12 4 rmX12_patch "patch" eI
set_option maxHeartbeats 4000000 in
set_option maxRecDepth 100000 in
theorem mX12_patch (w : dnWd) (x : dnX) (b : Nat) (r0 : Option Nat) (p1 : Int32) (p2 : Int32) (p3 : Int32) : dnMt w x b yX12_patch cX12_patch 4 (some .int) rmX12_patch eI [dnV b r0, .int p1, .int p2, .int p3] (fX12_patch r0 p1 p2 p3) := by
  have hlv : lv_args 0 [dnV b r0, .int p1, .int p2, .int p3] = [(0, dnV b r0), (1, .int p1), (2, .int p2), (3, .int p3)] := by cases r0 <;> rfl
  refine dn_mt (by decide +kernel) roI (by cases r0 <;> exact (Nat.le_of_ble_eq_true rfl)) ?_
  rw [hlv]
  refine dn_top ?_
  show jX12_patch w x b 0 0 0 _ [] (dnB _ dnP)
  unfold fX12_patch
  refine dn_aload_n (pc := 0) r0 0 dX12_patch_0 rfl ?_
  refine dn_aload_n (pc := 1) r0 0 dX12_patch_1 rfl ?_
  refine dn_getR (pc := 2) r0 lRX12_63 dX12_patch_2 (fun v1 => ?_)
  refine dn_iload_n (pc := 5) 1 dX12_patch_5 rfl ?_
  refine dn_iload_n (pc := 6) 2 dX12_patch_6 rfl ?_
  refine dn_iload_n (pc := 7) 3 dX12_patch_7 rfl ?_
  refine dn_callV0I (pc := 8) [.int p1, .int p2, .int p3] v1 kRX12_191 (mX4_regionOf w x b v1 p1 p2 p3) rfl rfl (Nat.le_of_ble_eq_true rfl) ⟨(Nat.le_of_ble_eq_true rfl), (Nat.le_of_ble_eq_true rfl)⟩ ⟨rfl, rfl, (Nat.le_of_ble_eq_true rfl), (Nat.le_of_ble_eq_true rfl)⟩ dX12_patch_8 (fun v2 => ?_)
  refine dn_callV0I (pc := 11) [.int v2] r0 kRX12_91 (mX12_tally w x b r0 v2) rfl rfl (Nat.le_of_ble_eq_true rfl) ⟨(Nat.le_of_ble_eq_true rfl), (Nat.le_of_ble_eq_true rfl)⟩ ⟨rfl, rfl, (Nat.le_of_ble_eq_true rfl), (Nat.le_of_ble_eq_true rfl)⟩ dX12_patch_11 (fun v3 => ?_)
  exact dn_ret (Nat.le_of_ble_eq_true rfl) (Nat.le_of_ble_eq_true rfl) rfl dX12_patch_14
abbrev rmX4_countRegions : Room := { frames := 5, cells := 0, slots := 0, locals := 118 }
def fX4_countRegions_j106 (l0 : Option Nat) (l1 : Int32) (l3 : Int32) (l4 : Int32) (l5 : Int32) (l6 : Int32) (l7 : Int32) : dnM ((Int32 × Int32 × Int32) ⊕ (Int32 × Int32)) :=
  dnP (.inl (l3, l4, (l7 + 1)))
def fX4_countRegions_b60 (c0 : Option Nat) (c1 : Int32) (c5 : Int32) (c6 : Int32) (s60 : Int32 × Int32 × Int32) : dnM ((Int32 × Int32 × Int32) ⊕ (Int32 × Int32)) :=
  if c6 ≤ s60.2.2 then
  (dnP (.inr (s60.1, s60.2.1)))
  else
  (dnB (dnGR c0 3 5) fun v10 =>
  dnB (dnAI v10 100 ((c5 * 12) + s60.2.2)) fun v11 =>
  if ¬ v11 = 0 then
  (fX4_countRegions_j106 c0 c1 s60.1 s60.2.1 c5 c6 s60.2.2)
  else
  (dnB (dnCv c0 3 (fX4_spread c0 c1 c5 s60.2.2)) fun _ =>
  dnB (dnGI c0 3 4) fun v13 =>
  dnB (fJ9_max_7cf53 s60.2.1 v13) fun v14 =>
  fX4_countRegions_j106 c0 c1 (s60.1 + 1) v14 c5 c6 s60.2.2))
def fX4_countRegions_b31 (c0 : Option Nat) (c1 : Int32) (s31 : Int32 × Int32 × Int32) : dnM ((Int32 × Int32 × Int32) ⊕ (Int32 × Int32)) :=
  dnB (dnGR c0 3 0) fun v5 =>
  dnB (dnGR v5 7 0) fun v6 =>
  dnB (dnAI v6 100 c1) fun v7 =>
  if v7 ≤ s31.2.2 then
  (dnP (.inr (s31.1, s31.2.1)))
  else
  (dnB (dnGR c0 3 0) fun v8 =>
  dnB (dnCv v8 7 (fX9_cellsAt v8 c1 s31.2.2)) fun v9 =>
  dnB (dnIt 1000 (fX4_countRegions_b60 c0 c1 s31.2.2 v9) (s31.1, s31.2.1, 0)) fun q60 =>
  dnP (.inl (q60.1, q60.2, (s31.2.2 + 1))))
def fX4_countRegions (r0 : Option Nat) (p1 : Int32) : dnM Int32 :=
  dnB (dnGR r0 3 0) fun v1 =>
  dnB (dnCv v1 7 (fX9_gridFault v1 p1)) fun v2 =>
  if 0 ≤ v2 then
  (dnB (dnGR r0 3 5) fun v3 =>
  dnB (fJ7_fill_53178 v3 0) fun _ =>
  dnB (dnIt 1000 (fX4_countRegions_b31 r0 p1) (0, 0, 0)) fun q31 =>
  dnB (dnGR r0 3 1) fun v15 =>
  dnB (dnPL v15 1 0 ((q31.2 : Int32).toInt64)) fun _ =>
  dnP q31.1)
  else
  (dnP v2)
abbrev jX4_countRegions (w : dnWd) (x : dnX) (b : Nat) := dnD w x b (fun _ => True) cX4_countRegions RX4 8 rmX4_countRegions "countRegions" eI
set_option maxHeartbeats 4000000 in
set_option maxRecDepth 100000 in
theorem mX4_countRegions (w : dnWd) (x : dnX) (b : Nat) (r0 : Option Nat) (p1 : Int32) : dnMt w x b yX4_countRegions cX4_countRegions 8 (some .int) rmX4_countRegions eI [dnV b r0, .int p1] (fX4_countRegions r0 p1) := by
  have hlv : lv_args 0 [dnV b r0, .int p1] = [(0, dnV b r0), (1, .int p1)] := by cases r0 <;> rfl
  refine dn_mt (by decide +kernel) roI (by cases r0 <;> exact (Nat.le_of_ble_eq_true rfl)) ?_
  rw [hlv]
  refine dn_top ?_
  show jX4_countRegions w x b 0 0 0 _ [] (dnB _ dnP)
  unfold fX4_countRegions
  refine dn_aload_n (pc := 0) r0 0 dX4_countRegions_0 rfl ?_
  refine dn_getR (pc := 1) r0 lRX4_27 dX4_countRegions_1 (fun v1 => ?_)
  refine dn_iload_n (pc := 4) 1 dX4_countRegions_4 rfl ?_
  refine dn_callV0I (pc := 5) [.int p1] v1 kRX4_86 (mX9_gridFault w x b v1 p1) rfl rfl (Nat.le_of_ble_eq_true rfl) ⟨(Nat.le_of_ble_eq_true rfl), (Nat.le_of_ble_eq_true rfl)⟩ ⟨rfl, rfl, (Nat.le_of_ble_eq_true rfl), (Nat.le_of_ble_eq_true rfl)⟩ dX4_countRegions_5 (fun v2 => ?_)
  refine dn_istore_n (pc := 8) dX4_countRegions_8 (Nat.le_of_ble_eq_true rfl) (dnKp_nb 1 rfl rfl rfl (dnKp_of (lv2 := [(0, dnV b r0)]) [0] rfl rfl)) ?_
  refine dn_iload_n (pc := 9) 0 dX4_countRegions_9 rfl ?_
  refine dn_if_ge (pc := 10) 15 dX4_countRegions_10 rfl (fun _ => ?_) (fun _ => ?_)
  · refine dn_aload_n (pc := 15) r0 2 dX4_countRegions_15 rfl ?_
    refine dn_getR (pc := 16) r0 lRX4_24 dX4_countRegions_16 (fun v3 => ?_)
    refine dn_iconst (pc := 19) (v := 0) dX4_countRegions_19 rfl ?_
    refine dn_callS0U (pc := 20) [dnV b v3, .int 0]  kRX4_49 (mJ7_fill_53178 w x b v3 0) rfl rfl (Nat.le_of_ble_eq_true rfl) ⟨(Nat.le_of_ble_eq_true rfl), (Nat.le_of_ble_eq_true rfl)⟩ ⟨rfl, rfl, (Nat.le_of_ble_eq_true rfl), (Nat.le_of_ble_eq_true rfl)⟩ dX4_countRegions_20 (fun _ => ?_)
    refine dn_iconst (pc := 23) (v := 0) dX4_countRegions_23 rfl ?_
    refine dn_istore_n (pc := 24) dX4_countRegions_24 (Nat.le_of_ble_eq_true rfl) (dnKp_of (lv2 := [(1, .int p1), (0, dnV b r0)]) [1, 2] rfl rfl) ?_
    refine dn_iconst (pc := 25) (v := 0) dX4_countRegions_25 rfl ?_
    refine dn_istore (pc := 26) dX4_countRegions_26 (Nat.le_of_ble_eq_true rfl) (dnKp_nb 0 rfl rfl rfl (dnKp_of (lv2 := [(1, .int p1), (0, dnV b r0)]) [1, 2] rfl rfl)) ?_
    refine dn_iconst (pc := 28) (v := 0) dX4_countRegions_28 rfl ?_
    refine dn_istore (pc := 29) dX4_countRegions_29 (Nat.le_of_ble_eq_true rfl) (dnKp_nb 0 rfl rfl rfl (dnKp_of (lv2 := [(3, .int 0), (1, .int p1), (0, dnV b r0)]) [1, 2, 3] rfl rfl)) ?_
    refine dn_assoc ?_
    refine dn_lv [4, 3, 2, 1, 0] (lv2 := (fun s => [(0, dnV b r0), (1, .int p1), (3, .int s.1), (4, .int s.2.1), (5, .int s.2.2)]) (0, 0, 0)) rfl ?_
    refine dn_loopE (pc := 31) (body := fX4_countRegions_b31 r0 p1) 118 (fun s => [(0, dnV b r0), (1, .int p1), (3, .int s.1), (4, .int s.2.1), (5, .int s.2.2)]) (fun q => [(0, dnV b r0), (3, .int q.1), (4, .int q.2)]) (fun s31 K31 E31 hK31 hE31 => ?_) (fun q31 => ?_) 1000 (0, 0, 0)
    · unfold fX4_countRegions_b31
      refine dn_iload (pc := 31) 4 dX4_countRegions_31 rfl ?_
      refine dn_aload_n (pc := 33) r0 0 dX4_countRegions_33 rfl ?_
      refine dn_getR (pc := 34) r0 lRX4_27 dX4_countRegions_34 (fun v5 => ?_)
      refine dn_getR (pc := 37) v5 lRX4_90 dX4_countRegions_37 (fun v6 => ?_)
      refine dn_iload_n (pc := 40) 1 dX4_countRegions_40 rfl ?_
      refine dn_iald (pc := 41) v6 dX4_countRegions_41 (fun v7 => ?_)
      refine dn_icmp_ge (pc := 42) 118 dX4_countRegions_42 rfl (fun _ => ?_) (fun _ => ?_)
      · refine dn_leaf ?_
        exact dn_lv [0, 2, 3] rfl (hE31 (s31.1, s31.2.1))
      · refine dn_aload_n (pc := 45) r0 0 dX4_countRegions_45 rfl ?_
        refine dn_getR (pc := 46) r0 lRX4_27 dX4_countRegions_46 (fun v8 => ?_)
        refine dn_iload_n (pc := 49) 1 dX4_countRegions_49 rfl ?_
        refine dn_iload (pc := 50) 4 dX4_countRegions_50 rfl ?_
        refine dn_callV0I (pc := 52) [.int p1, .int s31.2.2] v8 kRX4_93 (mX9_cellsAt w x b v8 p1 s31.2.2) rfl rfl (Nat.le_of_ble_eq_true rfl) ⟨(Nat.le_of_ble_eq_true rfl), (Nat.le_of_ble_eq_true rfl)⟩ ⟨rfl, rfl, (Nat.le_of_ble_eq_true rfl), (Nat.le_of_ble_eq_true rfl)⟩ dX4_countRegions_52 (fun v9 => ?_)
        refine dn_istore (pc := 55) dX4_countRegions_55 (Nat.le_of_ble_eq_true rfl) (dnKp_nb 4 rfl rfl rfl (dnKp_of (lv2 := [(0, dnV b r0), (1, .int p1), (3, .int s31.1), (4, .int s31.2.1)]) [0, 1, 2, 3] rfl rfl)) ?_
        refine dn_iconst (pc := 57) (v := 0) dX4_countRegions_57 rfl ?_
        refine dn_istore (pc := 58) dX4_countRegions_58 (Nat.le_of_ble_eq_true rfl) (dnKp_nb 0 rfl rfl rfl (dnKp_of (lv2 := [(5, .int s31.2.2), (0, dnV b r0), (1, .int p1), (3, .int s31.1), (4, .int s31.2.1)]) [1, 2, 3, 4, 5] rfl rfl)) ?_
        refine dn_assoc ?_
        refine dn_lv [3, 4, 5, 6, 2, 1, 0] (lv2 := (fun s => [(0, dnV b r0), (1, .int p1), (3, .int s.1), (4, .int s.2.1), (5, .int s31.2.2), (6, .int v9), (7, .int s.2.2)]) (s31.1, s31.2.1, 0)) rfl ?_
        refine dn_loopE (pc := 60) (body := fX4_countRegions_b60 r0 p1 s31.2.2 v9) 112 (fun s => [(0, dnV b r0), (1, .int p1), (3, .int s.1), (4, .int s.2.1), (5, .int s31.2.2), (6, .int v9), (7, .int s.2.2)]) (fun q => [(0, dnV b r0), (1, .int p1), (3, .int q.1), (4, .int q.2), (5, .int s31.2.2)]) (fun s60 K60 E60 hK60 hE60 => ?_) (fun q60 => ?_) 1000 (s31.1, s31.2.1, 0)
        · unfold fX4_countRegions_b60
          have hj106 : ∀ (l3 : Int32) (l4 : Int32) (l7 : Int32), jX4_countRegions w x b 106 0 0 [(0, dnV b r0), (1, .int p1), (3, .int l3), (4, .int l4), (5, .int s31.2.2), (6, .int v9), (7, .int l7)] [] (dnB (fX4_countRegions_j106 r0 p1 l3 l4 s31.2.2 v9 l7) (dnKo K60 E60)) := by
            intro l3 l4 l7
            unfold fX4_countRegions_j106
            refine dn_iinc (pc := 106) (l7 + 1) 6 dX4_countRegions_106 rfl rfl (Nat.le_of_ble_eq_true rfl) (dnKp_nb 5 rfl rfl rfl (dnKp_of (lv2 := [(0, dnV b r0), (1, .int p1), (3, .int l3), (4, .int l4), (5, .int s31.2.2)]) [0, 1, 2, 3, 4] rfl rfl)) ?_
            refine dn_goto (pc := 109) 60 dX4_countRegions_109 rfl ?_
            refine dn_leaf ?_
            exact dn_lv [2, 3, 4, 5, 6, 1, 0] rfl (hK60 (l3, l4, (l7 + 1)))
          refine dn_iload (pc := 60) 6 dX4_countRegions_60 rfl ?_
          refine dn_iload (pc := 62) 5 dX4_countRegions_62 rfl ?_
          refine dn_icmp_ge (pc := 64) 112 dX4_countRegions_64 rfl (fun _ => ?_) (fun _ => ?_)
          · refine dn_leaf ?_
            exact dn_lv [0, 1, 2, 3, 4] rfl (hE60 (s60.1, s60.2.1))
          · refine dn_aload_n (pc := 67) r0 0 dX4_countRegions_67 rfl ?_
            refine dn_getR (pc := 68) r0 lRX4_24 dX4_countRegions_68 (fun v10 => ?_)
            refine dn_iload (pc := 71) 4 dX4_countRegions_71 rfl ?_
            refine dn_bipush (pc := 73) (v := 12) dX4_countRegions_73 rfl ?_
            refine dn_imul (pc := 75) dX4_countRegions_75 ?_
            refine dn_iload (pc := 76) 6 dX4_countRegions_76 rfl ?_
            refine dn_iadd (pc := 78) dX4_countRegions_78 ?_
            refine dn_iald (pc := 79) v10 dX4_countRegions_79 (fun v11 => ?_)
            refine dn_if_ne (pc := 80) 106 dX4_countRegions_80 rfl (fun _ => ?_) (fun _ => ?_)
            · exact dn_lv [0, 1, 2, 3, 4, 5, 6] rfl (hj106 s60.1 s60.2.1 s60.2.2)
            · refine dn_aload_n (pc := 83) r0 0 dX4_countRegions_83 rfl ?_
              refine dn_iload_n (pc := 84) 1 dX4_countRegions_84 rfl ?_
              refine dn_iload (pc := 85) 4 dX4_countRegions_85 rfl ?_
              refine dn_iload (pc := 87) 6 dX4_countRegions_87 rfl ?_
              refine dn_callV0U (pc := 89) [.int p1, .int s31.2.2, .int s60.2.2] r0 kRX4_55 (mX4_spread w x b r0 p1 s31.2.2 s60.2.2) rfl rfl (Nat.le_of_ble_eq_true rfl) ⟨(Nat.le_of_ble_eq_true rfl), (Nat.le_of_ble_eq_true rfl)⟩ ⟨rfl, rfl, (Nat.le_of_ble_eq_true rfl), (Nat.le_of_ble_eq_true rfl)⟩ dX4_countRegions_89 (fun _ => ?_)
              refine dn_iinc (pc := 92) (s60.1 + 1) 2 dX4_countRegions_92 rfl rfl (Nat.le_of_ble_eq_true rfl) (dnKp_of (lv2 := [(0, dnV b r0), (1, .int p1), (4, .int s60.2.1), (5, .int s31.2.2), (6, .int v9), (7, .int s60.2.2)]) [0, 1, 3, 4, 5, 6] rfl rfl) ?_
              refine dn_iload (pc := 95) 3 dX4_countRegions_95 rfl ?_
              refine dn_aload_n (pc := 97) r0 1 dX4_countRegions_97 rfl ?_
              refine dn_getI (pc := 98) r0 lRX4_59 dX4_countRegions_98 (fun v13 => ?_)
              refine dn_callS0I (pc := 101) [.int s60.2.1, .int v13]  kRX4_96 (mJ9_max_7cf53 w x b s60.2.1 v13) rfl rfl (Nat.le_of_ble_eq_true rfl) ⟨(Nat.le_of_ble_eq_true rfl), (Nat.le_of_ble_eq_true rfl)⟩ ⟨rfl, rfl, (Nat.le_of_ble_eq_true rfl), (Nat.le_of_ble_eq_true rfl)⟩ dX4_countRegions_101 (fun v14 => ?_)
              refine dn_istore (pc := 104) dX4_countRegions_104 (Nat.le_of_ble_eq_true rfl) (dnKp_nb 0 rfl rfl rfl (dnKp_of (lv2 := [(0, dnV b r0), (1, .int p1), (5, .int s31.2.2), (6, .int v9), (7, .int s60.2.2)]) [1, 2, 4, 5, 6] rfl rfl)) ?_
              exact dn_lv [2, 3, 1, 0, 4, 5, 6] rfl (hj106 (s60.1 + 1) v14 s60.2.2)
        · refine dn_iinc (pc := 112) (s31.2.2 + 1) 4 dX4_countRegions_112 rfl rfl (Nat.le_of_ble_eq_true rfl) (dnKp_nb 3 rfl rfl rfl (dnKp_of (lv2 := [(0, dnV b r0), (1, .int p1), (3, .int q60.1)]) [0, 1, 2] rfl rfl)) ?_
          refine dn_goto (pc := 115) 31 dX4_countRegions_115 rfl ?_
          refine dn_leaf ?_
          exact dn_lv [2, 3, 4, 1, 0] rfl (hK31 (q60.1, q60.2, (s31.2.2 + 1)))
    · refine dn_aload_n (pc := 118) r0 0 dX4_countRegions_118 rfl ?_
      refine dn_getR (pc := 119) r0 lRX4_31 dX4_countRegions_119 (fun v15 => ?_)
      refine dn_iload (pc := 122) 2 dX4_countRegions_122 rfl ?_
      refine dn_i2l (pc := 124) dX4_countRegions_124 ?_
      refine dn_putL (pc := 125) v15 lRX4_68 dX4_countRegions_125 ?_
      refine dn_iload_n (pc := 128) 1 dX4_countRegions_128 rfl ?_
      exact dn_ret (Nat.le_of_ble_eq_true rfl) (Nat.le_of_ble_eq_true rfl) rfl dX4_countRegions_129
  · refine dn_iload_n (pc := 13) 0 dX4_countRegions_13 rfl ?_
    exact dn_ret (Nat.le_of_ble_eq_true rfl) (Nat.le_of_ble_eq_true rfl) rfl dX4_countRegions_14
abbrev rmX12_patches : Room := { frames := 6, cells := 0, slots := 0, locals := 145 }
def fX12_patches (r0 : Option Nat) (p1 : Int32) : dnM Int32 :=
  dnB (dnGR r0 10 8) fun v1 =>
  dnB (dnCv v1 3 (fX4_countRegions v1 p1)) fun v2 =>
  dnB (dnCv r0 10 (fX12_tally r0 v2)) fun v3 =>
  dnP v3
abbrev jX12_patches (w : dnWd) (x : dnX) (b : Nat) := dnD w x b (fun _ => True) cX12_patches RX12 2 rmX12_patches "patches" eI
set_option maxHeartbeats 4000000 in
set_option maxRecDepth 100000 in
theorem mX12_patches (w : dnWd) (x : dnX) (b : Nat) (r0 : Option Nat) (p1 : Int32) : dnMt w x b yX12_patches cX12_patches 2 (some .int) rmX12_patches eI [dnV b r0, .int p1] (fX12_patches r0 p1) := by
  have hlv : lv_args 0 [dnV b r0, .int p1] = [(0, dnV b r0), (1, .int p1)] := by cases r0 <;> rfl
  refine dn_mt (by decide +kernel) roI (by cases r0 <;> exact (Nat.le_of_ble_eq_true rfl)) ?_
  rw [hlv]
  refine dn_top ?_
  show jX12_patches w x b 0 0 0 _ [] (dnB _ dnP)
  unfold fX12_patches
  refine dn_aload_n (pc := 0) r0 0 dX12_patches_0 rfl ?_
  refine dn_aload_n (pc := 1) r0 0 dX12_patches_1 rfl ?_
  refine dn_getR (pc := 2) r0 lRX12_63 dX12_patches_2 (fun v1 => ?_)
  refine dn_iload_n (pc := 5) 1 dX12_patches_5 rfl ?_
  refine dn_callV0I (pc := 6) [.int p1] v1 kRX12_194 (mX4_countRegions w x b v1 p1) rfl rfl (Nat.le_of_ble_eq_true rfl) ⟨(Nat.le_of_ble_eq_true rfl), (Nat.le_of_ble_eq_true rfl)⟩ ⟨rfl, rfl, (Nat.le_of_ble_eq_true rfl), (Nat.le_of_ble_eq_true rfl)⟩ dX12_patches_6 (fun v2 => ?_)
  refine dn_callV0I (pc := 9) [.int v2] r0 kRX12_91 (mX12_tally w x b r0 v2) rfl rfl (Nat.le_of_ble_eq_true rfl) ⟨(Nat.le_of_ble_eq_true rfl), (Nat.le_of_ble_eq_true rfl)⟩ ⟨rfl, rfl, (Nat.le_of_ble_eq_true rfl), (Nat.le_of_ble_eq_true rfl)⟩ dX12_patches_9 (fun v3 => ?_)
  exact dn_ret (Nat.le_of_ble_eq_true rfl) (Nat.le_of_ble_eq_true rfl) rfl dX12_patches_12
abbrev rmX6_pickTrue : Room := { frames := 4, cells := 0, slots := 0, locals := 87 }
def fX6_pickTrue_j198 (l0 : Option Nat) (l1 : Int32) (l2 : Int32) (l6 : Int32) (l7 : Option Nat) : dnM Int32 :=
  dnB (dnGR l0 5 0) fun v1 =>
  dnB (dnCv v1 7 (fX9_place v1 l1 l2 l7)) fun _ =>
  dnP l6
def fX6_pickTrue_j116 (l0 : Option Nat) (l1 : Int32) (l2 : Int32) (l4 : Option Nat) (l5 : Option Nat) (l7 : Int32) (s0 : Int32) (s1 : Bool) : dnM ((Int32 × Int32) ⊕ ((Int32) ⊕ Int32)) :=
  dnP (.inl ((s0 + (dnZ s1)), (l7 + 1)))
def fX6_pickTrue_b58 (c0 : Option Nat) (c1 : Int32) (c2 : Int32) (c4 : Option Nat) (c5 : Option Nat) (s58 : Int32 × Int32) : dnM ((Int32 × Int32) ⊕ ((Int32) ⊕ Int32)) :=
  dnB (dnGI c4 4 2) fun v13 =>
  if v13 ≤ s58.2 then
  (dnP (.inr (.inl s58.1)))
  else
  (dnB (dnCv c5 4 (fX5_hasCell c5 s58.2)) fun v14 =>
  if v14 = true then
  (dnB (dnGI c5 4 1) fun v15 =>
  dnB (fX12_readsAs v15 0) fun v16 =>
  if v16 = true then
  (dnB (dnGR c5 4 4) fun v17 =>
  dnB (dnAL v17 102 s58.2) fun v18 =>
  if ¬ (lg_cmp v18 1) = 0 then
  (fX6_pickTrue_j116 c0 c1 c2 c4 c5 s58.2 s58.1 false)
  else
  (fX6_pickTrue_j116 c0 c1 c2 c4 c5 s58.2 s58.1 true))
  else
  (dnP (.inr (.inr (-7)))))
  else
  (dnP (.inr (.inr (-6)))))
def fX6_pickTrue_j192 (l0 : Option Nat) (l1 : Int32) (l2 : Int32) (l4 : Option Nat) (l5 : Option Nat) (l6 : Int32) (l7 : Option Nat) (l8 : Int32) (l9 : Int32) : dnM ((Int32 × Int32) ⊕ (Unit)) :=
  dnP (.inl (l8, (l9 + 1)))
def fX6_pickTrue_b147 (c0 : Option Nat) (c1 : Int32) (c2 : Int32) (c4 : Option Nat) (c5 : Option Nat) (c6 : Int32) (c7 : Option Nat) (s147 : Int32 × Int32) : dnM ((Int32 × Int32) ⊕ (Unit)) :=
  dnB (dnGI c4 4 2) fun v22 =>
  if v22 ≤ s147.2 then
  (dnP (.inr ()))
  else
  (if c6 ≤ s147.1 then
  (dnP (.inr ()))
  else
  (dnB (dnGR c5 4 4) fun v23 =>
  dnB (dnAL v23 102 s147.2) fun v24 =>
  if ¬ (lg_cmp v24 1) = 0 then
  (fX6_pickTrue_j192 c0 c1 c2 c4 c5 c6 c7 s147.1 s147.2)
  else
  (dnB (dnCv c7 4 (fX5_accept c7 s147.1 c4 s147.2)) fun v25 =>
  fX6_pickTrue_j192 c0 c1 c2 c4 c5 c6 c7 (s147.1 + 1) s147.2)))
def fX6_pickTrue (r0 : Option Nat) (p1 : Int32) (p2 : Int32) (p3 : Int32) : dnM Int32 :=
  dnB (dnGR r0 5 0) fun v3 =>
  dnB (dnCv v3 7 (fX9_rowAt v3 p1 p2)) fun v4 =>
  v4.elim
  (dnB (dnGR r0 5 0) fun v6 =>
  dnB (dnCv v6 7 (fX9_rowFault v6 p1 p2)) fun v7 =>
  dnP v7)
  (fun v5 => dnB (dnGR r0 5 0) fun v8 =>
  dnB (dnCv v8 7 (fX9_rowAt v8 p1 p3)) fun v9 =>
  v9.elim
  (dnB (dnGR r0 5 0) fun v11 =>
  dnB (dnCv v11 7 (fX9_rowFault v11 p1 p3)) fun v12 =>
  dnP v12)
  (fun v10 => dnB (dnIt 1000 (fX6_pickTrue_b58 r0 p1 p2 (some v5) (some v10)) (0, 0)) fun q_ => q_.elim (fun q58 => dnB (dnGR r0 5 0) fun v19 =>
  dnB (dnGI (some v5) 4 1) fun v20 =>
  dnB (dnCv v19 7 (fX9_freshRow v19 v20 q58)) fun v21 =>
  dnB (dnIt 1000 (fX6_pickTrue_b147 r0 p1 p2 (some v5) (some v10) q58 v21) (0, 0)) fun q147 =>
  fX6_pickTrue_j198 r0 p1 p2 q58 v21) (fun v_ => dnP v_)))
abbrev jX6_pickTrue (w : dnWd) (x : dnX) (b : Nat) := dnD w x b (fun _ => True) cX6_pickTrue RX6 10 rmX6_pickTrue "pickTrue" eI
set_option maxHeartbeats 4000000 in
set_option maxRecDepth 100000 in
theorem mX6_pickTrue (w : dnWd) (x : dnX) (b : Nat) (r0 : Option Nat) (p1 : Int32) (p2 : Int32) (p3 : Int32) : dnMt w x b yX6_pickTrue cX6_pickTrue 10 (some .int) rmX6_pickTrue eI [dnV b r0, .int p1, .int p2, .int p3] (fX6_pickTrue r0 p1 p2 p3) := by
  have hlv : lv_args 0 [dnV b r0, .int p1, .int p2, .int p3] = [(0, dnV b r0), (1, .int p1), (2, .int p2), (3, .int p3)] := by cases r0 <;> rfl
  refine dn_mt (by decide +kernel) roI (by cases r0 <;> exact (Nat.le_of_ble_eq_true rfl)) ?_
  rw [hlv]
  refine dn_top ?_
  show jX6_pickTrue w x b 0 0 0 _ [] (dnB _ dnP)
  unfold fX6_pickTrue
  have hj198 : ∀ (l0 : Option Nat) (l1 : Int32) (l2 : Int32) (l6 : Int32) (l7 : Option Nat), jX6_pickTrue w x b 198 0 0 [(0, dnV b l0), (1, .int l1), (2, .int l2), (6, .int l6), (7, dnV b l7)] [] (dnB (fX6_pickTrue_j198 l0 l1 l2 l6 l7) dnP) := by
    intro l0 l1 l2 l6 l7
    unfold fX6_pickTrue_j198
    refine dn_aload_n (pc := 198) l0 0 dX6_pickTrue_198 rfl ?_
    refine dn_getR (pc := 199) l0 lRX6_23 dX6_pickTrue_199 (fun v1 => ?_)
    refine dn_iload_n (pc := 202) 1 dX6_pickTrue_202 rfl ?_
    refine dn_iload_n (pc := 203) 2 dX6_pickTrue_203 rfl ?_
    refine dn_aload (pc := 204) l7 4 dX6_pickTrue_204 rfl ?_
    refine dn_callV0U (pc := 206) [.int l1, .int l2, dnV b l7] v1 kRX6_108 (mX9_place w x b v1 l1 l2 l7) rfl rfl (Nat.le_of_ble_eq_true rfl) ⟨(Nat.le_of_ble_eq_true rfl), (Nat.le_of_ble_eq_true rfl)⟩ ⟨rfl, rfl, (Nat.le_of_ble_eq_true rfl), (Nat.le_of_ble_eq_true rfl)⟩ dX6_pickTrue_206 (fun _ => ?_)
    refine dn_iload (pc := 209) 3 dX6_pickTrue_209 rfl ?_
    exact dn_ret (Nat.le_of_ble_eq_true rfl) (Nat.le_of_ble_eq_true rfl) rfl dX6_pickTrue_211
  refine dn_aload_n (pc := 0) r0 0 dX6_pickTrue_0 rfl ?_
  refine dn_getR (pc := 1) r0 lRX6_23 dX6_pickTrue_1 (fun v3 => ?_)
  refine dn_iload_n (pc := 4) 1 dX6_pickTrue_4 rfl ?_
  refine dn_iload_n (pc := 5) 2 dX6_pickTrue_5 rfl ?_
  refine dn_callV0R (pc := 6) [.int p1, .int p2] v3 kRX6_35 (mX9_rowAt w x b v3 p1 p2) rfl rfl (Nat.le_of_ble_eq_true rfl) ⟨(Nat.le_of_ble_eq_true rfl), (Nat.le_of_ble_eq_true rfl)⟩ ⟨rfl, rfl, (Nat.le_of_ble_eq_true rfl), (Nat.le_of_ble_eq_true rfl)⟩ dX6_pickTrue_6 (fun v4 => ?_)
  refine dn_astore (pc := 9) v4 dX6_pickTrue_9 (Nat.le_of_ble_eq_true rfl) (dnKp_nb 3 rfl rfl rfl (dnKp_of (lv2 := [(0, dnV b r0), (1, .int p1), (2, .int p2)]) [0, 1, 2] rfl rfl)) ?_
  refine dn_aload (pc := 11) v4 0 dX6_pickTrue_11 rfl ?_
  refine dn_ifnonnull (pc := 13) v4 26 dX6_pickTrue_13 rfl (fun e_ => ?_) (fun v5 e_ => ?_)
  · subst e_
    refine dn_aload_n (pc := 16) r0 2 dX6_pickTrue_16 rfl ?_
    refine dn_getR (pc := 17) r0 lRX6_23 dX6_pickTrue_17 (fun v6 => ?_)
    refine dn_iload_n (pc := 20) 3 dX6_pickTrue_20 rfl ?_
    refine dn_iload_n (pc := 21) 4 dX6_pickTrue_21 rfl ?_
    refine dn_callV0I (pc := 22) [.int p1, .int p2] v6 kRX6_41 (mX9_rowFault w x b v6 p1 p2) rfl rfl (Nat.le_of_ble_eq_true rfl) ⟨(Nat.le_of_ble_eq_true rfl), (Nat.le_of_ble_eq_true rfl)⟩ ⟨rfl, rfl, (Nat.le_of_ble_eq_true rfl), (Nat.le_of_ble_eq_true rfl)⟩ dX6_pickTrue_22 (fun v7 => ?_)
    exact dn_ret (Nat.le_of_ble_eq_true rfl) (Nat.le_of_ble_eq_true rfl) rfl dX6_pickTrue_25
  · subst e_
    refine dn_aload_n (pc := 26) r0 2 dX6_pickTrue_26 rfl ?_
    refine dn_getR (pc := 27) r0 lRX6_23 dX6_pickTrue_27 (fun v8 => ?_)
    refine dn_iload_n (pc := 30) 3 dX6_pickTrue_30 rfl ?_
    refine dn_iload_n (pc := 31) 1 dX6_pickTrue_31 rfl ?_
    refine dn_callV0R (pc := 32) [.int p1, .int p3] v8 kRX6_35 (mX9_rowAt w x b v8 p1 p3) rfl rfl (Nat.le_of_ble_eq_true rfl) ⟨(Nat.le_of_ble_eq_true rfl), (Nat.le_of_ble_eq_true rfl)⟩ ⟨rfl, rfl, (Nat.le_of_ble_eq_true rfl), (Nat.le_of_ble_eq_true rfl)⟩ dX6_pickTrue_32 (fun v9 => ?_)
    refine dn_astore (pc := 35) v9 dX6_pickTrue_35 (Nat.le_of_ble_eq_true rfl) (dnKp_nb 0 rfl (dn_cat b _) rfl (dnKp_of (lv2 := [(3, .int p3), (0, dnV b r0), (1, .int p1), (2, .int p2)]) [1, 2, 3, 4] rfl rfl)) ?_
    refine dn_aload (pc := 37) v9 0 dX6_pickTrue_37 rfl ?_
    refine dn_ifnonnull (pc := 39) v9 52 dX6_pickTrue_39 rfl (fun e_ => ?_) (fun v10 e_ => ?_)
    · subst e_
      refine dn_aload_n (pc := 42) r0 3 dX6_pickTrue_42 rfl ?_
      refine dn_getR (pc := 43) r0 lRX6_23 dX6_pickTrue_43 (fun v11 => ?_)
      refine dn_iload_n (pc := 46) 4 dX6_pickTrue_46 rfl ?_
      refine dn_iload_n (pc := 47) 2 dX6_pickTrue_47 rfl ?_
      refine dn_callV0I (pc := 48) [.int p1, .int p3] v11 kRX6_41 (mX9_rowFault w x b v11 p1 p3) rfl rfl (Nat.le_of_ble_eq_true rfl) ⟨(Nat.le_of_ble_eq_true rfl), (Nat.le_of_ble_eq_true rfl)⟩ ⟨rfl, rfl, (Nat.le_of_ble_eq_true rfl), (Nat.le_of_ble_eq_true rfl)⟩ dX6_pickTrue_48 (fun v12 => ?_)
      exact dn_ret (Nat.le_of_ble_eq_true rfl) (Nat.le_of_ble_eq_true rfl) rfl dX6_pickTrue_51
    · subst e_
      refine dn_iconst (pc := 52) (v := 0) dX6_pickTrue_52 rfl ?_
      refine dn_istore (pc := 53) dX6_pickTrue_53 (Nat.le_of_ble_eq_true rfl) (dnKp_nb 0 rfl (dn_cat b _) rfl (dnKp_of (lv2 := [(4, dnV b (some v5)), (0, dnV b r0), (1, .int p1), (2, .int p2)]) [1, 3, 4, 5] rfl rfl)) ?_
      refine dn_iconst (pc := 55) (v := 0) dX6_pickTrue_55 rfl ?_
      refine dn_istore (pc := 56) dX6_pickTrue_56 (Nat.le_of_ble_eq_true rfl) (dnKp_nb 0 rfl rfl rfl (dnKp_of (lv2 := [(5, dnV b (some v10)), (4, dnV b (some v5)), (0, dnV b r0), (1, .int p1), (2, .int p2)]) [1, 2, 3, 4, 5] rfl rfl)) ?_
      refine dn_assoc ?_
      refine dn_lv [4, 5, 6, 3, 2, 1, 0] (lv2 := (fun s => [(0, dnV b r0), (1, .int p1), (2, .int p2), (4, dnV b (some v5)), (5, dnV b (some v10)), (6, .int s.1), (7, .int s.2)]) (0, 0)) rfl ?_
      refine dn_loopR (pc := 58) (body := fX6_pickTrue_b58 r0 p1 p2 (some v5) (some v10)) 125 (fun s => [(0, dnV b r0), (1, .int p1), (2, .int p2), (4, dnV b (some v5)), (5, dnV b (some v10)), (6, .int s.1), (7, .int s.2)]) (fun q => [(0, dnV b r0), (1, .int p1), (2, .int p2), (4, dnV b (some v5)), (5, dnV b (some v10)), (6, .int q)]) (fun s58 K58 E58 hK58 hE58 hR58 => ?_) (dn_rt (Nat.le_of_ble_eq_true rfl) (Nat.le_of_ble_eq_true rfl) (fun _ => rfl)) (fun q58 => ?_) 1000 (0, 0)
      · unfold fX6_pickTrue_b58
        have hj116 : ∀ (l7 : Int32) (s0 : Int32) (s1 : Bool), jX6_pickTrue w x b 116 0 0 [(0, dnV b r0), (1, .int p1), (2, .int p2), (4, dnV b (some v5)), (5, dnV b (some v10)), (7, .int l7)] [.int (dnZ s1), .int s0] (dnB (fX6_pickTrue_j116 r0 p1 p2 (some v5) (some v10) l7 s0 s1) (dnKo K58 E58)) := by
          intro l7 s0 s1
          unfold fX6_pickTrue_j116
          refine dn_iadd (pc := 116) dX6_pickTrue_116 ?_
          refine dn_istore (pc := 117) dX6_pickTrue_117 (Nat.le_of_ble_eq_true rfl) (dnKp_nb 4 rfl (dn_cat b _) rfl (dnKp_of (lv2 := [(0, dnV b r0), (1, .int p1), (2, .int p2), (4, dnV b (some v5)), (7, .int l7)]) [0, 1, 2, 3, 5] rfl rfl)) ?_
          refine dn_iinc (pc := 119) (l7 + 1) 6 dX6_pickTrue_119 rfl rfl (Nat.le_of_ble_eq_true rfl) (dnKp_nb 0 rfl rfl rfl (dnKp_of (lv2 := [(5, dnV b (some v10)), (0, dnV b r0), (1, .int p1), (2, .int p2), (4, dnV b (some v5))]) [1, 2, 3, 4, 5] rfl rfl)) ?_
          refine dn_goto (pc := 122) 58 dX6_pickTrue_122 rfl ?_
          refine dn_leaf ?_
          exact dn_lv [3, 4, 5, 6, 2, 1, 0] rfl (hK58 ((s0 + (dnZ s1)), (l7 + 1)))
        refine dn_iload (pc := 58) 6 dX6_pickTrue_58 rfl ?_
        refine dn_aload (pc := 60) (some v5) 3 dX6_pickTrue_60 rfl ?_
        refine dn_getI (pc := 62) (some v5) lRX6_92 dX6_pickTrue_62 (fun v13 => ?_)
        refine dn_icmp_ge (pc := 65) 125 dX6_pickTrue_65 rfl (fun _ => ?_) (fun _ => ?_)
        · refine dn_leaf ?_
          exact dn_lv [0, 1, 2, 3, 4, 5] rfl (hE58 s58.1)
        · refine dn_aload (pc := 68) (some v10) 4 dX6_pickTrue_68 rfl ?_
          refine dn_iload (pc := 70) 6 dX6_pickTrue_70 rfl ?_
          refine dn_callV0Z (pc := 72) [.int s58.2] (some v10) kRX6_45 (mX5_hasCell w x b (some v10) s58.2) rfl rfl (Nat.le_of_ble_eq_true rfl) ⟨(Nat.le_of_ble_eq_true rfl), (Nat.le_of_ble_eq_true rfl)⟩ ⟨rfl, rfl, (Nat.le_of_ble_eq_true rfl), (Nat.le_of_ble_eq_true rfl)⟩ dX6_pickTrue_72 (fun v14 => ?_)
          refine dn_ifz_ne (pc := 75) 81 dX6_pickTrue_75 rfl (fun _ => ?_) (fun _ => ?_)
          · refine dn_aload (pc := 81) (some v10) 4 dX6_pickTrue_81 rfl ?_
            refine dn_getI (pc := 83) (some v10) lRX6_48 dX6_pickTrue_83 (fun v15 => ?_)
            refine dn_iconst (pc := 86) (v := 0) dX6_pickTrue_86 rfl ?_
            refine dn_callSN0Z (pc := 87) [.int v15, .int 0]  kRX6_52 (mX12_readsAs w x b v15 0) rfl rfl (Nat.le_of_ble_eq_true rfl) ⟨(Nat.le_of_ble_eq_true rfl), (Nat.le_of_ble_eq_true rfl)⟩ ⟨rfl, rfl, (Nat.le_of_ble_eq_true rfl), (Nat.le_of_ble_eq_true rfl)⟩ dX6_pickTrue_87 (fun v16 => ?_)
            refine dn_ifz_ne (pc := 90) 96 dX6_pickTrue_90 rfl (fun _ => ?_) (fun _ => ?_)
            · refine dn_iload (pc := 96) 5 dX6_pickTrue_96 rfl ?_
              refine dn_aload (pc := 98) (some v10) 4 dX6_pickTrue_98 rfl ?_
              refine dn_getR (pc := 100) (some v10) lRX6_146 dX6_pickTrue_100 (fun v17 => ?_)
              refine dn_iload (pc := 103) 6 dX6_pickTrue_103 rfl ?_
              refine dn_lald (pc := 105) v17 dX6_pickTrue_105 (fun v18 => ?_)
              refine dn_lconst (pc := 106) (v := 1) dX6_pickTrue_106 rfl ?_
              refine dn_lcmp (pc := 107) dX6_pickTrue_107 ?_
              refine dn_if_ne (pc := 108) 115 dX6_pickTrue_108 rfl (fun _ => ?_) (fun _ => ?_)
              · refine dn_iconst (pc := 115) (v := 0) dX6_pickTrue_115 rfl ?_
                exact dn_lv [0, 1, 2, 3, 4, 6] rfl (hj116 s58.2 s58.1 false)
              · refine dn_iconst (pc := 111) (v := 1) dX6_pickTrue_111 rfl ?_
                refine dn_goto (pc := 112) 116 dX6_pickTrue_112 rfl ?_
                exact dn_lv [0, 1, 2, 3, 4, 6] rfl (hj116 s58.2 s58.1 true)
            · refine dn_bipush (pc := 93) (v := -7) dX6_pickTrue_93 rfl ?_
              refine dn_leaf ?_
              exact hR58 (-7) _ _ _ rfl dX6_pickTrue_95
          · refine dn_bipush (pc := 78) (v := -6) dX6_pickTrue_78 rfl ?_
            refine dn_leaf ?_
            exact hR58 (-6) _ _ _ rfl dX6_pickTrue_80
      · dsimp only [Sum.elim_inl]
        refine dn_aload_n (pc := 125) r0 0 dX6_pickTrue_125 rfl ?_
        refine dn_getR (pc := 126) r0 lRX6_23 dX6_pickTrue_126 (fun v19 => ?_)
        refine dn_aload (pc := 129) (some v5) 3 dX6_pickTrue_129 rfl ?_
        refine dn_getI (pc := 131) (some v5) lRX6_48 dX6_pickTrue_131 (fun v20 => ?_)
        refine dn_iload (pc := 134) 5 dX6_pickTrue_134 rfl ?_
        refine dn_callV0R (pc := 136) [.int v20, .int q58] v19 kRX6_101 (mX9_freshRow w x b v19 v20 q58) rfl rfl (Nat.le_of_ble_eq_true rfl) ⟨(Nat.le_of_ble_eq_true rfl), (Nat.le_of_ble_eq_true rfl)⟩ ⟨rfl, rfl, (Nat.le_of_ble_eq_true rfl), (Nat.le_of_ble_eq_true rfl)⟩ dX6_pickTrue_136 (fun v21 => ?_)
        refine dn_astore (pc := 139) v21 dX6_pickTrue_139 (Nat.le_of_ble_eq_true rfl) (dnKp_nb 5 rfl rfl rfl (dnKp_of (lv2 := [(0, dnV b r0), (1, .int p1), (2, .int p2), (4, dnV b (some v5)), (5, dnV b (some v10))]) [0, 1, 2, 3, 4] rfl rfl)) ?_
        refine dn_iconst (pc := 141) (v := 0) dX6_pickTrue_141 rfl ?_
        refine dn_istore (pc := 142) dX6_pickTrue_142 (Nat.le_of_ble_eq_true rfl) (dnKp_nb 0 rfl (dn_cat b _) rfl (dnKp_of (lv2 := [(6, .int q58), (0, dnV b r0), (1, .int p1), (2, .int p2), (4, dnV b (some v5)), (5, dnV b (some v10))]) [1, 2, 3, 4, 5, 6] rfl rfl)) ?_
        refine dn_iconst (pc := 144) (v := 0) dX6_pickTrue_144 rfl ?_
        refine dn_istore (pc := 145) dX6_pickTrue_145 (Nat.le_of_ble_eq_true rfl) (dnKp_nb 0 rfl rfl rfl (dnKp_of (lv2 := [(7, dnV b v21), (6, .int q58), (0, dnV b r0), (1, .int p1), (2, .int p2), (4, dnV b (some v5)), (5, dnV b (some v10))]) [1, 2, 3, 4, 5, 6, 7] rfl rfl)) ?_
        refine dn_assoc ?_
        refine dn_lv [4, 5, 6, 7, 8, 3, 2, 1, 0] (lv2 := (fun s => [(0, dnV b r0), (1, .int p1), (2, .int p2), (4, dnV b (some v5)), (5, dnV b (some v10)), (6, .int q58), (7, dnV b v21), (8, .int s.1), (9, .int s.2)]) (0, 0)) rfl ?_
        refine dn_loopE (pc := 147) (body := fX6_pickTrue_b147 r0 p1 p2 (some v5) (some v10) q58 v21) 198 (fun s => [(0, dnV b r0), (1, .int p1), (2, .int p2), (4, dnV b (some v5)), (5, dnV b (some v10)), (6, .int q58), (7, dnV b v21), (8, .int s.1), (9, .int s.2)]) (fun q => [(0, dnV b r0), (1, .int p1), (2, .int p2), (6, .int q58), (7, dnV b v21)]) (fun s147 K147 E147 hK147 hE147 => ?_) (fun q147 => ?_) 1000 (0, 0)
        · unfold fX6_pickTrue_b147
          have hj192 : ∀ (l8 : Int32) (l9 : Int32), jX6_pickTrue w x b 192 0 0 [(0, dnV b r0), (1, .int p1), (2, .int p2), (4, dnV b (some v5)), (5, dnV b (some v10)), (6, .int q58), (7, dnV b v21), (8, .int l8), (9, .int l9)] [] (dnB (fX6_pickTrue_j192 r0 p1 p2 (some v5) (some v10) q58 v21 l8 l9) (dnKo K147 E147)) := by
            intro l8 l9
            unfold fX6_pickTrue_j192
            refine dn_iinc (pc := 192) (l9 + 1) 8 dX6_pickTrue_192 rfl rfl (Nat.le_of_ble_eq_true rfl) (dnKp_nb 7 rfl rfl rfl (dnKp_of (lv2 := [(0, dnV b r0), (1, .int p1), (2, .int p2), (4, dnV b (some v5)), (5, dnV b (some v10)), (6, .int q58), (7, dnV b v21)]) [0, 1, 2, 3, 4, 5, 6] rfl rfl)) ?_
            refine dn_goto (pc := 195) 147 dX6_pickTrue_195 rfl ?_
            refine dn_leaf ?_
            exact dn_lv [2, 3, 4, 5, 6, 7, 8, 1, 0] rfl (hK147 (l8, (l9 + 1)))
          refine dn_iload (pc := 147) 8 dX6_pickTrue_147 rfl ?_
          refine dn_aload (pc := 149) (some v5) 3 dX6_pickTrue_149 rfl ?_
          refine dn_getI (pc := 151) (some v5) lRX6_92 dX6_pickTrue_151 (fun v22 => ?_)
          refine dn_icmp_ge (pc := 154) 198 dX6_pickTrue_154 rfl (fun _ => ?_) (fun _ => ?_)
          · refine dn_leaf ?_
            exact dn_lv [0, 1, 2, 5, 6] rfl (hE147 ())
          · refine dn_iload (pc := 157) 7 dX6_pickTrue_157 rfl ?_
            refine dn_iload (pc := 159) 5 dX6_pickTrue_159 rfl ?_
            refine dn_icmp_ge (pc := 161) 198 dX6_pickTrue_161 rfl (fun _ => ?_) (fun _ => ?_)
            · refine dn_leaf ?_
              exact dn_lv [0, 1, 2, 5, 6] rfl (hE147 ())
            · refine dn_aload (pc := 164) (some v10) 4 dX6_pickTrue_164 rfl ?_
              refine dn_getR (pc := 166) (some v10) lRX6_146 dX6_pickTrue_166 (fun v23 => ?_)
              refine dn_iload (pc := 169) 8 dX6_pickTrue_169 rfl ?_
              refine dn_lald (pc := 171) v23 dX6_pickTrue_171 (fun v24 => ?_)
              refine dn_lconst (pc := 172) (v := 1) dX6_pickTrue_172 rfl ?_
              refine dn_lcmp (pc := 173) dX6_pickTrue_173 ?_
              refine dn_if_ne (pc := 174) 192 dX6_pickTrue_174 rfl (fun _ => ?_) (fun _ => ?_)
              · exact dn_lv [0, 1, 2, 3, 4, 5, 6, 7, 8] rfl (hj192 s147.1 s147.2)
              · refine dn_aload (pc := 177) v21 6 dX6_pickTrue_177 rfl ?_
                refine dn_iload (pc := 179) 7 dX6_pickTrue_179 rfl ?_
                refine dn_aload (pc := 181) (some v5) 3 dX6_pickTrue_181 rfl ?_
                refine dn_iload (pc := 183) 8 dX6_pickTrue_183 rfl ?_
                refine dn_callV0Z (pc := 185) [.int s147.1, dnV b (some v5), .int s147.2] v21 kRX6_60 (mX5_accept w x b v21 s147.1 (some v5) s147.2) rfl rfl (Nat.le_of_ble_eq_true rfl) ⟨(Nat.le_of_ble_eq_true rfl), (Nat.le_of_ble_eq_true rfl)⟩ ⟨rfl, rfl, (Nat.le_of_ble_eq_true rfl), (Nat.le_of_ble_eq_true rfl)⟩ dX6_pickTrue_185 (fun v25 => ?_)
                refine dn_pop (pc := 188) dX6_pickTrue_188 rfl ?_
                refine dn_iinc (pc := 189) (s147.1 + 1) 7 dX6_pickTrue_189 rfl rfl (Nat.le_of_ble_eq_true rfl) (dnKp_nb 6 rfl (dn_cat b _) rfl (dnKp_of (lv2 := [(0, dnV b r0), (1, .int p1), (2, .int p2), (4, dnV b (some v5)), (5, dnV b (some v10)), (6, .int q58), (9, .int s147.2)]) [0, 1, 2, 3, 4, 5, 8] rfl rfl)) ?_
                exact dn_lv [2, 3, 4, 5, 6, 7, 1, 0, 8] rfl (hj192 (s147.1 + 1) s147.2)
        · exact dn_lv [0, 1, 2, 3, 4] rfl (hj198 r0 p1 p2 q58 v21)
