abbrev rmX13_pick : Room := { frames := 5, cells := 0, slots := 0, locals := 123 }
def fX13_pick (r0 : Option Nat) (p1 : Int32) (p2 : Int32) (p3 : Int32) : dnM Int32 :=
  dnB (dnCv r0 11 (fX13_pickDeed r0 p1 p2 p3)) fun v1 =>
  dnB (dnCv r0 11 (fX13_said r0 v1)) fun v2 =>
  dnP v2
abbrev jX13_pick (w : dnWd) (x : dnX) (b : Nat) := dnD w x b (fun _ => True) cX13_pick RX13 4 rmX13_pick "pick" eI
set_option maxHeartbeats 4000000 in
set_option maxRecDepth 100000 in
theorem mX13_pick (w : dnWd) (x : dnX) (b : Nat) (r0 : Option Nat) (p1 : Int32) (p2 : Int32) (p3 : Int32) : dnMt w x b yX13_pick cX13_pick 4 (some .int) rmX13_pick eI [dnV b r0, .int p1, .int p2, .int p3] (fX13_pick r0 p1 p2 p3) := by
  have hlv : lv_args 0 [dnV b r0, .int p1, .int p2, .int p3] = [(0, dnV b r0), (1, .int p1), (2, .int p2), (3, .int p3)] := by cases r0 <;> rfl
  refine dn_mt (by decide +kernel) roI (by cases r0 <;> exact (Nat.le_of_ble_eq_true rfl)) ?_
  rw [hlv]
  refine dn_top ?_
  show jX13_pick w x b 0 0 0 _ [] (dnB _ dnP)
  unfold fX13_pick
  refine dn_aload_n (pc := 0) r0 0 dX13_pick_0 rfl ?_
  refine dn_aload_n (pc := 1) r0 0 dX13_pick_1 rfl ?_
  refine dn_iload_n (pc := 2) 1 dX13_pick_2 rfl ?_
  refine dn_iload_n (pc := 3) 2 dX13_pick_3 rfl ?_
  refine dn_iload_n (pc := 4) 3 dX13_pick_4 rfl ?_
  refine dn_callV0I (pc := 5) [.int p1, .int p2, .int p3] r0 kRX13_333 (mX13_pickDeed w x b r0 p1 p2 p3) rfl rfl (Nat.le_of_ble_eq_true rfl) ⟨(Nat.le_of_ble_eq_true rfl), (Nat.le_of_ble_eq_true rfl)⟩ ⟨rfl, rfl, (Nat.le_of_ble_eq_true rfl), (Nat.le_of_ble_eq_true rfl)⟩ dX13_pick_5 (fun v1 => ?_)
  refine dn_callV0I (pc := 8) [.int v1] r0 kRX13_137 (mX13_said w x b r0 v1) rfl rfl (Nat.le_of_ble_eq_true rfl) ⟨(Nat.le_of_ble_eq_true rfl), (Nat.le_of_ble_eq_true rfl)⟩ ⟨rfl, rfl, (Nat.le_of_ble_eq_true rfl), (Nat.le_of_ble_eq_true rfl)⟩ dX13_pick_8 (fun v2 => ?_)
  exact dn_ret (Nat.le_of_ble_eq_true rfl) (Nat.le_of_ble_eq_true rfl) rfl dX13_pick_11
abbrev rmX13_readsNumber : Room := { frames := 2, cells := 0, slots := 0, locals := 43 }
def fX13_readsNumber_j107 : dnM Bool :=
  dnP true
def fX13_readsNumber_j97 (l2 : Int32) : dnM Bool :=
  if l2 = 1 then
  (fX13_readsNumber_j107)
  else
  (if ¬ l2 = 2 then
  (dnP false)
  else
  (fX13_readsNumber_j107))
def fX13_readsNumber_j92 (l0 : Option Nat) (l1 : Int32) (l2 : Int32) : dnM Bool :=
  dnB (dnPI l0 11 38 l1) fun _ =>
  fX13_readsNumber_j97 l2
def fX13_readsNumber_j59 (l0 : Option Nat) (l1 : Int32) (s0 : Option Nat) (s1 : Int32) : dnM ((Unit) ⊕ (Unit)) :=
  dnB (dnPI s0 11 39 s1) fun _ =>
  dnB (dnGI l0 11 38) fun v2 =>
  dnB (dnPI l0 11 38 (v2 + 1)) fun _ =>
  dnP (.inl ())
def fX13_readsNumber_b10 (c0 : Option Nat) (c1 : Int32) (s10 : Unit) : dnM ((Unit) ⊕ (Unit)) :=
  dnB (dnGI c0 11 38) fun v3 =>
  dnB (dnCv c0 11 (fX13_isFigure c0 v3)) fun v4 =>
  if v4 = true then
  (dnB (dnGI c0 11 38) fun v5 =>
  if 2 ≤ (v5 - c1) then
  (dnB (dnGI c0 11 39) fun v6 =>
  fX13_readsNumber_j59 c0 c1 c0 v6)
  else
  (dnB (dnGI c0 11 39) fun v7 =>
  dnB (dnGR c0 11 36) fun v8 =>
  dnB (dnGI c0 11 38) fun v9 =>
  dnB (dnAI v8 100 v9) fun v10 =>
  fX13_readsNumber_j59 c0 c1 c0 (((10 * v7) + v10) - 48)))
  else
  (dnP (.inr ()))
def fX13_readsNumber (r0 : Option Nat) : dnM Bool :=
  dnB (dnGI r0 11 38) fun v1 =>
  dnB (dnPI r0 11 39 0) fun _ =>
  dnB (dnIt 1000 (fX13_readsNumber_b10 r0 v1) ()) fun q10 =>
  dnB (dnGI r0 11 38) fun v11 =>
  if (v11 - v1) < 1 then
  (fX13_readsNumber_j92 r0 v1 (v11 - v1))
  else
  (if (v11 - v1) ≤ 2 then
  (fX13_readsNumber_j97 (v11 - v1))
  else
  (fX13_readsNumber_j92 r0 v1 (v11 - v1)))
abbrev jX13_readsNumber (w : dnWd) (x : dnX) (b : Nat) := dnD w x b (fun _ => True) cX13_readsNumber RX13 3 rmX13_readsNumber "readsNumber" eZ
set_option maxHeartbeats 4000000 in
set_option maxRecDepth 100000 in
theorem mX13_readsNumber (w : dnWd) (x : dnX) (b : Nat) (r0 : Option Nat) : dnMt w x b yX13_readsNumber cX13_readsNumber 3 (some .boolean) rmX13_readsNumber eZ [dnV b r0] (fX13_readsNumber r0) := by
  have hlv : lv_args 0 [dnV b r0] = [(0, dnV b r0)] := by cases r0 <;> rfl
  refine dn_mt (by decide +kernel) roZ (by cases r0 <;> exact (Nat.le_of_ble_eq_true rfl)) ?_
  rw [hlv]
  refine dn_top ?_
  show jX13_readsNumber w x b 0 0 0 _ [] (dnB _ dnP)
  unfold fX13_readsNumber
  have hj107 : jX13_readsNumber w x b 107 0 0 [] [] (dnB (fX13_readsNumber_j107) dnP) := by
    unfold fX13_readsNumber_j107
    refine dn_iconst (pc := 107) (v := 1) dX13_readsNumber_107 rfl ?_
    refine dn_goto (pc := 108) 112 dX13_readsNumber_108 rfl ?_
    exact dn_ret (Nat.le_of_ble_eq_true rfl) (Nat.le_of_ble_eq_true rfl) rfl dX13_readsNumber_112
  have hj97 : ∀ (l2 : Int32), jX13_readsNumber w x b 97 0 0 [(2, .int l2)] [] (dnB (fX13_readsNumber_j97 l2) dnP) := by
    intro l2
    unfold fX13_readsNumber_j97
    refine dn_iload_n (pc := 97) 0 dX13_readsNumber_97 rfl ?_
    refine dn_iconst (pc := 98) (v := 1) dX13_readsNumber_98 rfl ?_
    refine dn_icmp_eq (pc := 99) 107 dX13_readsNumber_99 rfl (fun _ => ?_) (fun _ => ?_)
    · exact dn_lv [] rfl (hj107)
    · refine dn_iload_n (pc := 102) 0 dX13_readsNumber_102 rfl ?_
      refine dn_iconst (pc := 103) (v := 2) dX13_readsNumber_103 rfl ?_
      refine dn_icmp_ne (pc := 104) 111 dX13_readsNumber_104 rfl (fun _ => ?_) (fun _ => ?_)
      · refine dn_iconst (pc := 111) (v := 0) dX13_readsNumber_111 rfl ?_
        exact dn_ret (Nat.le_of_ble_eq_true rfl) (Nat.le_of_ble_eq_true rfl) rfl dX13_readsNumber_112
      · exact dn_lv [] rfl (hj107)
  have hj92 : ∀ (l0 : Option Nat) (l1 : Int32) (l2 : Int32), jX13_readsNumber w x b 92 0 0 [(0, dnV b l0), (1, .int l1), (2, .int l2)] [] (dnB (fX13_readsNumber_j92 l0 l1 l2) dnP) := by
    intro l0 l1 l2
    unfold fX13_readsNumber_j92
    refine dn_aload_n (pc := 92) l0 0 dX13_readsNumber_92 rfl ?_
    refine dn_iload_n (pc := 93) 1 dX13_readsNumber_93 rfl ?_
    refine dn_putI (pc := 94) l0 lRX13_469 dX13_readsNumber_94 ?_
    exact dn_lv [2] rfl (hj97 l2)
  refine dn_aload_n (pc := 0) r0 0 dX13_readsNumber_0 rfl ?_
  refine dn_getI (pc := 1) r0 lRX13_469 dX13_readsNumber_1 (fun v1 => ?_)
  refine dn_istore_n (pc := 4) dX13_readsNumber_4 (Nat.le_of_ble_eq_true rfl) (dnKp_nb 0 rfl (dn_cat b _) rfl (dnKp_of (lv2 := []) [] rfl rfl)) ?_
  refine dn_aload_n (pc := 5) r0 1 dX13_readsNumber_5 rfl ?_
  refine dn_iconst (pc := 6) (v := 0) dX13_readsNumber_6 rfl ?_
  refine dn_putI (pc := 7) r0 lRX13_490 dX13_readsNumber_7 ?_
  refine dn_assoc ?_
  refine dn_lv [1, 0] (lv2 := (fun s => [(0, dnV b r0), (1, .int v1)]) ()) rfl ?_
  refine dn_loopE (pc := 10) (body := fX13_readsNumber_b10 r0 v1) 75 (fun s => [(0, dnV b r0), (1, .int v1)]) (fun q => [(0, dnV b r0), (1, .int v1)]) (fun s10 K10 E10 hK10 hE10 => ?_) (fun q10 => ?_) 1000 ()
  · unfold fX13_readsNumber_b10
    have hj59 : ∀ (s0 : Option Nat) (s1 : Int32), jX13_readsNumber w x b 59 0 0 [(0, dnV b r0), (1, .int v1)] [.int s1, dnV b s0] (dnB (fX13_readsNumber_j59 r0 v1 s0 s1) (dnKo K10 E10)) := by
      intro s0 s1
      unfold fX13_readsNumber_j59
      refine dn_putI (pc := 59) s0 lRX13_490 dX13_readsNumber_59 ?_
      refine dn_aload_n (pc := 62) r0 0 dX13_readsNumber_62 rfl ?_
      refine dn_dup (pc := 63) dX13_readsNumber_63 (dn_cat b _) ?_
      refine dn_getI (pc := 64) r0 lRX13_469 dX13_readsNumber_64 (fun v2 => ?_)
      refine dn_iconst (pc := 67) (v := 1) dX13_readsNumber_67 rfl ?_
      refine dn_iadd (pc := 68) dX13_readsNumber_68 ?_
      refine dn_putI (pc := 69) r0 lRX13_469 dX13_readsNumber_69 ?_
      refine dn_goto (pc := 72) 10 dX13_readsNumber_72 rfl ?_
      refine dn_leaf ?_
      exact dn_lv [0, 1] rfl (hK10 ())
    refine dn_aload_n (pc := 10) r0 0 dX13_readsNumber_10 rfl ?_
    refine dn_aload_n (pc := 11) r0 0 dX13_readsNumber_11 rfl ?_
    refine dn_getI (pc := 12) r0 lRX13_469 dX13_readsNumber_12 (fun v3 => ?_)
    refine dn_callV0Z (pc := 15) [.int v3] r0 kRX13_493 (mX13_isFigure w x b r0 v3) rfl rfl (Nat.le_of_ble_eq_true rfl) ⟨(Nat.le_of_ble_eq_true rfl), (Nat.le_of_ble_eq_true rfl)⟩ ⟨rfl, rfl, (Nat.le_of_ble_eq_true rfl), (Nat.le_of_ble_eq_true rfl)⟩ dX13_readsNumber_15 (fun v4 => ?_)
    refine dn_ifz_eq (pc := 18) 75 dX13_readsNumber_18 rfl (fun _ => ?_) (fun _ => ?_)
    · refine dn_aload_n (pc := 21) r0 0 dX13_readsNumber_21 rfl ?_
      refine dn_aload_n (pc := 22) r0 0 dX13_readsNumber_22 rfl ?_
      refine dn_getI (pc := 23) r0 lRX13_469 dX13_readsNumber_23 (fun v5 => ?_)
      refine dn_iload_n (pc := 26) 1 dX13_readsNumber_26 rfl ?_
      refine dn_isub (pc := 27) dX13_readsNumber_27 ?_
      refine dn_iconst (pc := 28) (v := 2) dX13_readsNumber_28 rfl ?_
      refine dn_icmp_ge (pc := 29) 55 dX13_readsNumber_29 rfl (fun _ => ?_) (fun _ => ?_)
      · refine dn_aload_n (pc := 55) r0 0 dX13_readsNumber_55 rfl ?_
        refine dn_getI (pc := 56) r0 lRX13_490 dX13_readsNumber_56 (fun v6 => ?_)
        exact dn_lv [0, 1] rfl (hj59 r0 v6)
      · refine dn_bipush (pc := 32) (v := 10) dX13_readsNumber_32 rfl ?_
        refine dn_aload_n (pc := 34) r0 0 dX13_readsNumber_34 rfl ?_
        refine dn_getI (pc := 35) r0 lRX13_490 dX13_readsNumber_35 (fun v7 => ?_)
        refine dn_imul (pc := 38) dX13_readsNumber_38 ?_
        refine dn_aload_n (pc := 39) r0 0 dX13_readsNumber_39 rfl ?_
        refine dn_getR (pc := 40) r0 lRX13_94 dX13_readsNumber_40 (fun v8 => ?_)
        refine dn_aload_n (pc := 43) r0 0 dX13_readsNumber_43 rfl ?_
        refine dn_getI (pc := 44) r0 lRX13_469 dX13_readsNumber_44 (fun v9 => ?_)
        refine dn_iald (pc := 47) v8 dX13_readsNumber_47 (fun v10 => ?_)
        refine dn_iadd (pc := 48) dX13_readsNumber_48 ?_
        refine dn_bipush (pc := 49) (v := 48) dX13_readsNumber_49 rfl ?_
        refine dn_isub (pc := 51) dX13_readsNumber_51 ?_
        refine dn_goto (pc := 52) 59 dX13_readsNumber_52 rfl ?_
        exact dn_lv [0, 1] rfl (hj59 r0 (((10 * v7) + v10) - 48))
    · refine dn_leaf ?_
      exact dn_lv [0, 1] rfl (hE10 ())
  · refine dn_aload_n (pc := 75) r0 0 dX13_readsNumber_75 rfl ?_
    refine dn_getI (pc := 76) r0 lRX13_469 dX13_readsNumber_76 (fun v11 => ?_)
    refine dn_iload_n (pc := 79) 1 dX13_readsNumber_79 rfl ?_
    refine dn_isub (pc := 80) dX13_readsNumber_80 ?_
    refine dn_istore_n (pc := 81) dX13_readsNumber_81 (Nat.le_of_ble_eq_true rfl) (dnKp_nb 1 rfl rfl rfl (dnKp_of (lv2 := [(0, dnV b r0)]) [0] rfl rfl)) ?_
    refine dn_iload_n (pc := 82) 0 dX13_readsNumber_82 rfl ?_
    refine dn_iconst (pc := 83) (v := 1) dX13_readsNumber_83 rfl ?_
    refine dn_icmp_lt (pc := 84) 92 dX13_readsNumber_84 rfl (fun _ => ?_) (fun _ => ?_)
    · exact dn_lv [2, 1, 0] rfl (hj92 r0 v1 (v11 - v1))
    · refine dn_iload_n (pc := 87) 0 dX13_readsNumber_87 rfl ?_
      refine dn_iconst (pc := 88) (v := 2) dX13_readsNumber_88 rfl ?_
      refine dn_icmp_le (pc := 89) 97 dX13_readsNumber_89 rfl (fun _ => ?_) (fun _ => ?_)
      · exact dn_lv [0] rfl (hj97 (v11 - v1))
      · exact dn_lv [2, 1, 0] rfl (hj92 r0 v1 (v11 - v1))
abbrev rmX13_word : Room := { frames := 2, cells := 0, slots := 0, locals := 43 }
def fX13_word_j46 (l0 : Option Nat) (l3 : Int32) (s0 : Int64) : dnM ((Int64 × Int32) ⊕ (Int64 × Int32)) :=
  dnB (dnGI l0 11 38) fun v1 =>
  dnB (dnPI l0 11 38 (v1 + 1)) fun _ =>
  dnP (.inl (s0, (l3 + 1)))
def fX13_word_b4 (c0 : Option Nat) (s4 : Int64 × Int32) : dnM ((Int64 × Int32) ⊕ (Int64 × Int32)) :=
  dnB (dnGI c0 11 38) fun v2 =>
  dnB (dnCv c0 11 (fX13_isLetter c0 v2)) fun v3 =>
  if v3 = true then
  (if 6 ≤ s4.2 then
  (fX13_word_j46 c0 s4.2 (-1))
  else
  (dnB (dnGR c0 11 36) fun v4 =>
  dnB (dnGI c0 11 38) fun v5 =>
  dnB (dnAI v4 100 v5) fun v6 =>
  fX13_word_j46 c0 s4.2 ((32 * s4.1) + (((v6 - 96) : Int32).toInt64))))
  else
  (dnP (.inr (s4.1, s4.2)))
def fX13_word (r0 : Option Nat) : dnM Int64 :=
  dnB (dnIt 1000 (fX13_word_b4 r0) (0, 0)) fun q4 =>
  if q4.2 ≤ 6 then
  (dnP q4.1)
  else
  (dnP (-1))
abbrev jX13_word (w : dnWd) (x : dnX) (b : Nat) := dnD w x b (fun _ => True) cX13_word RX13 4 rmX13_word "word" eL
set_option maxHeartbeats 4000000 in
set_option maxRecDepth 100000 in
theorem mX13_word (w : dnWd) (x : dnX) (b : Nat) (r0 : Option Nat) : dnMt w x b yX13_word cX13_word 4 (some .long) rmX13_word eL [dnV b r0] (fX13_word r0) := by
  have hlv : lv_args 0 [dnV b r0] = [(0, dnV b r0)] := by cases r0 <;> rfl
  refine dn_mt (by decide +kernel) roL (by cases r0 <;> exact (Nat.le_of_ble_eq_true rfl)) ?_
  rw [hlv]
  refine dn_top ?_
  show jX13_word w x b 0 0 0 _ [] (dnB _ dnP)
  unfold fX13_word
  refine dn_lconst (pc := 0) (v := 0) dX13_word_0 rfl ?_
  refine dn_lstore_n (pc := 1) dX13_word_1 (Nat.le_of_ble_eq_true rfl) (dnKp_nb 0 rfl (dn_cat b _) rfl (dnKp_of (lv2 := []) [] rfl rfl)) ?_
  refine dn_iconst (pc := 2) (v := 0) dX13_word_2 rfl ?_
  refine dn_istore_n (pc := 3) dX13_word_3 (Nat.le_of_ble_eq_true rfl) (dnKp_of (lv2 := [(1, .long 0), (0, dnV b r0)]) [0, 1] rfl rfl) ?_
  refine dn_assoc ?_
  refine dn_lv [2, 1, 0] (lv2 := (fun s => [(0, dnV b r0), (1, .long s.1), (3, .int s.2)]) (0, 0)) rfl ?_
  refine dn_loopE (pc := 4) (body := fX13_word_b4 r0) 63 (fun s => [(0, dnV b r0), (1, .long s.1), (3, .int s.2)]) (fun q => [(1, .long q.1), (3, .int q.2)]) (fun s4 K4 E4 hK4 hE4 => ?_) (fun q4 => ?_) 1000 (0, 0)
  · unfold fX13_word_b4
    have hj46 : ∀ (l3 : Int32) (s0 : Int64), jX13_word w x b 46 0 0 [(0, dnV b r0), (3, .int l3)] [.long s0] (dnB (fX13_word_j46 r0 l3 s0) (dnKo K4 E4)) := by
      intro l3 s0
      unfold fX13_word_j46
      refine dn_lstore_n (pc := 46) dX13_word_46 (Nat.le_of_ble_eq_true rfl) (dnKp_nb 0 rfl (dn_cat b _) rfl (dnKp_of (lv2 := [(3, .int l3)]) [1] rfl rfl)) ?_
      refine dn_iinc (pc := 47) (l3 + 1) 2 dX13_word_47 rfl rfl (Nat.le_of_ble_eq_true rfl) (dnKp_of (lv2 := [(1, .long s0), (0, dnV b r0)]) [0, 1] rfl rfl) ?_
      refine dn_aload_n (pc := 50) r0 2 dX13_word_50 rfl ?_
      refine dn_dup (pc := 51) dX13_word_51 (dn_cat b _) ?_
      refine dn_getI (pc := 52) r0 lRX13_469 dX13_word_52 (fun v1 => ?_)
      refine dn_iconst (pc := 55) (v := 1) dX13_word_55 rfl ?_
      refine dn_iadd (pc := 56) dX13_word_56 ?_
      refine dn_putI (pc := 57) r0 lRX13_469 dX13_word_57 ?_
      refine dn_goto (pc := 60) 4 dX13_word_60 rfl ?_
      refine dn_leaf ?_
      exact dn_lv [2, 1, 0] rfl (hK4 (s0, (l3 + 1)))
    refine dn_aload_n (pc := 4) r0 0 dX13_word_4 rfl ?_
    refine dn_aload_n (pc := 5) r0 0 dX13_word_5 rfl ?_
    refine dn_getI (pc := 6) r0 lRX13_469 dX13_word_6 (fun v2 => ?_)
    refine dn_callV0Z (pc := 9) [.int v2] r0 kRX13_472 (mX13_isLetter w x b r0 v2) rfl rfl (Nat.le_of_ble_eq_true rfl) ⟨(Nat.le_of_ble_eq_true rfl), (Nat.le_of_ble_eq_true rfl)⟩ ⟨rfl, rfl, (Nat.le_of_ble_eq_true rfl), (Nat.le_of_ble_eq_true rfl)⟩ dX13_word_9 (fun v3 => ?_)
    refine dn_ifz_eq (pc := 12) 63 dX13_word_12 rfl (fun _ => ?_) (fun _ => ?_)
    · refine dn_iload_n (pc := 15) 2 dX13_word_15 rfl ?_
      refine dn_bipush (pc := 16) (v := 6) dX13_word_16 rfl ?_
      refine dn_icmp_ge (pc := 18) 43 dX13_word_18 rfl (fun _ => ?_) (fun _ => ?_)
      · refine dn_ldc2 (pc := 43) kRX13_477 dX13_word_43 ?_
        exact dn_lv [0, 2] rfl (hj46 s4.2 (-1))
      · refine dn_ldc2 (pc := 21) kRX13_475 dX13_word_21 ?_
        refine dn_lload_n (pc := 24) 1 dX13_word_24 rfl ?_
        refine dn_lmul (pc := 25) dX13_word_25 ?_
        refine dn_aload_n (pc := 26) r0 0 dX13_word_26 rfl ?_
        refine dn_getR (pc := 27) r0 lRX13_94 dX13_word_27 (fun v4 => ?_)
        refine dn_aload_n (pc := 30) r0 0 dX13_word_30 rfl ?_
        refine dn_getI (pc := 31) r0 lRX13_469 dX13_word_31 (fun v5 => ?_)
        refine dn_iald (pc := 34) v4 dX13_word_34 (fun v6 => ?_)
        refine dn_bipush (pc := 35) (v := 96) dX13_word_35 rfl ?_
        refine dn_isub (pc := 37) dX13_word_37 ?_
        refine dn_i2l (pc := 38) dX13_word_38 ?_
        refine dn_ladd (pc := 39) dX13_word_39 ?_
        refine dn_goto (pc := 40) 46 dX13_word_40 rfl ?_
        exact dn_lv [0, 2] rfl (hj46 s4.2 ((32 * s4.1) + (((v6 - 96) : Int32).toInt64)))
    · refine dn_leaf ?_
      exact dn_lv [1, 2] rfl (hE4 (s4.1, s4.2))
  · refine dn_iload_n (pc := 63) 1 dX13_word_63 rfl ?_
    refine dn_bipush (pc := 64) (v := 6) dX13_word_64 rfl ?_
    refine dn_icmp_le (pc := 66) 75 dX13_word_66 rfl (fun _ => ?_) (fun _ => ?_)
    · refine dn_lload_n (pc := 75) 0 dX13_word_75 rfl ?_
      exact dn_ret (Nat.le_of_ble_eq_true rfl) (Nat.le_of_ble_eq_true rfl) rfl dX13_word_76
    · refine dn_ldc2 (pc := 69) kRX13_477 dX13_word_69 ?_
      refine dn_goto (pc := 72) 76 dX13_word_72 rfl ?_
      exact dn_ret (Nat.le_of_ble_eq_true rfl) (Nat.le_of_ble_eq_true rfl) rfl dX13_word_76
abbrev rmX13_readsStep : Room := { frames := 3, cells := 0, slots := 0, locals := 66 }
def fX13_readsStep_b57 (c0 : Option Nat) (c2 : Int32) (s57 : Int32) : dnM ((Int32) ⊕ ((Unit) ⊕ Bool)) :=
  dnB (fX13_numbersOf c2) fun v8 =>
  if v8 ≤ s57 then
  (dnP (.inr (.inl ())))
  else
  (dnB (dnCv c0 11 (fX13_passesBlanks c0)) fun _ =>
  dnB (dnCv c0 11 (fX13_readsNumber c0)) fun v10 =>
  if v10 = true then
  (dnB (dnGR c0 11 42) fun v11 =>
  dnB (dnGI c0 11 40) fun v12 =>
  dnB (dnGI c0 11 39) fun v13 =>
  dnB (dnTI v11 100 ((5 * v12) + s57) v13) fun _ =>
  dnP (.inl (s57 + 1)))
  else
  (dnP (.inr (.inr false))))
def fX13_readsStep (r0 : Option Nat) : dnM Bool :=
  dnB (dnGI r0 11 38) fun v1 =>
  dnB (dnCv r0 11 (fX13_isLetter r0 v1)) fun v2 =>
  if v2 = true then
  (dnB (dnGI r0 11 40) fun v3 =>
  if ¬ v3 = 8 then
  (dnB (dnCv r0 11 (fX13_word r0)) fun v4 =>
  dnB (fX13_deedOf v4) fun v5 =>
  if ¬ v5 = (-9) then
  (dnB (dnGR r0 11 41) fun v6 =>
  dnB (dnGI r0 11 40) fun v7 =>
  dnB (dnTI v6 100 v7 v5) fun _ =>
  dnB (dnIt 1000 (fX13_readsStep_b57 r0 v5) 0) fun q_ => q_.elim (fun q57 => dnB (dnCv r0 11 (fX13_passesBlanks r0)) fun _ =>
  dnB (dnGI r0 11 38) fun v15 =>
  dnB (dnGI r0 11 37) fun v16 =>
  if v15 = v16 then
  (dnP false)
  else
  (dnB (dnGR r0 11 36) fun v17 =>
  dnB (dnGI r0 11 38) fun v18 =>
  dnB (dnAI v17 100 v18) fun v19 =>
  if v19 = 59 then
  (dnB (dnGI r0 11 38) fun v20 =>
  dnB (dnPI r0 11 38 (v20 + 1)) fun _ =>
  dnB (dnGI r0 11 40) fun v21 =>
  dnB (dnPI r0 11 40 (v21 + 1)) fun _ =>
  dnP true)
  else
  (dnP false))) (fun v_ => dnP v_))
  else
  (dnB (dnPI r0 11 38 v1) fun _ =>
  dnP false))
  else
  (dnP false))
  else
  (dnP false)
abbrev jX13_readsStep (w : dnWd) (x : dnX) (b : Nat) := dnD w x b (fun _ => True) cX13_readsStep RX13 4 rmX13_readsStep "readsStep" eZ
set_option maxHeartbeats 4000000 in
set_option maxRecDepth 100000 in
theorem mX13_readsStep (w : dnWd) (x : dnX) (b : Nat) (r0 : Option Nat) : dnMt w x b yX13_readsStep cX13_readsStep 4 (some .boolean) rmX13_readsStep eZ [dnV b r0] (fX13_readsStep r0) := by
  have hlv : lv_args 0 [dnV b r0] = [(0, dnV b r0)] := by cases r0 <;> rfl
  refine dn_mt (by decide +kernel) roZ (by cases r0 <;> exact (Nat.le_of_ble_eq_true rfl)) ?_
  rw [hlv]
  refine dn_top ?_
  show jX13_readsStep w x b 0 0 0 _ [] (dnB _ dnP)
  unfold fX13_readsStep
  refine dn_aload_n (pc := 0) r0 0 dX13_readsStep_0 rfl ?_
  refine dn_getI (pc := 1) r0 lRX13_469 dX13_readsStep_1 (fun v1 => ?_)
  refine dn_istore_n (pc := 4) dX13_readsStep_4 (Nat.le_of_ble_eq_true rfl) (dnKp_nb 0 rfl (dn_cat b _) rfl (dnKp_of (lv2 := []) [] rfl rfl)) ?_
  refine dn_aload_n (pc := 5) r0 1 dX13_readsStep_5 rfl ?_
  refine dn_iload_n (pc := 6) 0 dX13_readsStep_6 rfl ?_
  refine dn_callV0Z (pc := 7) [.int v1] r0 kRX13_472 (mX13_isLetter w x b r0 v1) rfl rfl (Nat.le_of_ble_eq_true rfl) ⟨(Nat.le_of_ble_eq_true rfl), (Nat.le_of_ble_eq_true rfl)⟩ ⟨rfl, rfl, (Nat.le_of_ble_eq_true rfl), (Nat.le_of_ble_eq_true rfl)⟩ dX13_readsStep_7 (fun v2 => ?_)
  refine dn_ifz_eq (pc := 10) 22 dX13_readsStep_10 rfl (fun _ => ?_) (fun _ => ?_)
  · refine dn_aload_n (pc := 13) r0 1 dX13_readsStep_13 rfl ?_
    refine dn_getI (pc := 14) r0 lRX13_496 dX13_readsStep_14 (fun v3 => ?_)
    refine dn_bipush (pc := 17) (v := 8) dX13_readsStep_17 rfl ?_
    refine dn_icmp_ne (pc := 19) 24 dX13_readsStep_19 rfl (fun _ => ?_) (fun _ => ?_)
    · refine dn_aload_n (pc := 24) r0 1 dX13_readsStep_24 rfl ?_
      refine dn_callV0L (pc := 25) [] r0 kRX13_499 (mX13_word w x b r0) rfl rfl (Nat.le_of_ble_eq_true rfl) ⟨(Nat.le_of_ble_eq_true rfl), (Nat.le_of_ble_eq_true rfl)⟩ ⟨rfl, rfl, (Nat.le_of_ble_eq_true rfl), (Nat.le_of_ble_eq_true rfl)⟩ dX13_readsStep_25 (fun v4 => ?_)
      refine dn_callS0I (pc := 28) [.long v4]  kRX13_502 (mX13_deedOf w x b v4) rfl rfl (Nat.le_of_ble_eq_true rfl) ⟨(Nat.le_of_ble_eq_true rfl), (Nat.le_of_ble_eq_true rfl)⟩ ⟨rfl, rfl, (Nat.le_of_ble_eq_true rfl), (Nat.le_of_ble_eq_true rfl)⟩ dX13_readsStep_28 (fun v5 => ?_)
      refine dn_istore_n (pc := 31) dX13_readsStep_31 (Nat.le_of_ble_eq_true rfl) (dnKp_nb 0 rfl rfl rfl (dnKp_of (lv2 := [(0, dnV b r0)]) [1] rfl rfl)) ?_
      refine dn_iload_n (pc := 32) 0 dX13_readsStep_32 rfl ?_
      refine dn_bipush (pc := 33) (v := -9) dX13_readsStep_33 rfl ?_
      refine dn_icmp_ne (pc := 35) 45 dX13_readsStep_35 rfl (fun _ => ?_) (fun _ => ?_)
      · refine dn_aload_n (pc := 45) r0 2 dX13_readsStep_45 rfl ?_
        refine dn_getR (pc := 46) r0 lRX13_97 dX13_readsStep_46 (fun v6 => ?_)
        refine dn_aload_n (pc := 49) r0 2 dX13_readsStep_49 rfl ?_
        refine dn_getI (pc := 50) r0 lRX13_496 dX13_readsStep_50 (fun v7 => ?_)
        refine dn_iload_n (pc := 53) 0 dX13_readsStep_53 rfl ?_
        refine dn_iast (pc := 54) v6 dX13_readsStep_54 ?_
        refine dn_iconst (pc := 55) (v := 0) dX13_readsStep_55 rfl ?_
        refine dn_istore_n (pc := 56) dX13_readsStep_56 (Nat.le_of_ble_eq_true rfl) (dnKp_nb 0 rfl rfl rfl (dnKp_of (lv2 := [(0, dnV b r0)]) [2] rfl rfl)) ?_
        refine dn_assoc ?_
        refine dn_lv [2, 1, 0] (lv2 := (fun s => [(0, dnV b r0), (2, .int v5), (3, .int s)]) 0) rfl ?_
        refine dn_loopR (pc := 57) (body := fX13_readsStep_b57 r0 v5) 101 (fun s => [(0, dnV b r0), (2, .int v5), (3, .int s)]) (fun q => [(0, dnV b r0)]) (fun s57 K57 E57 hK57 hE57 hR57 => ?_) (dn_rt (Nat.le_of_ble_eq_true rfl) (Nat.le_of_ble_eq_true rfl) (fun _ => rfl)) (fun q57 => ?_) 1000 0
        · unfold fX13_readsStep_b57
          refine dn_iload_n (pc := 57) 2 dX13_readsStep_57 rfl ?_
          refine dn_iload_n (pc := 58) 1 dX13_readsStep_58 rfl ?_
          refine dn_callS0I (pc := 59) [.int v5]  kRX13_505 (mX13_numbersOf w x b v5) rfl rfl (Nat.le_of_ble_eq_true rfl) ⟨(Nat.le_of_ble_eq_true rfl), (Nat.le_of_ble_eq_true rfl)⟩ ⟨rfl, rfl, (Nat.le_of_ble_eq_true rfl), (Nat.le_of_ble_eq_true rfl)⟩ dX13_readsStep_59 (fun v8 => ?_)
          refine dn_icmp_ge (pc := 62) 101 dX13_readsStep_62 rfl (fun _ => ?_) (fun _ => ?_)
          · refine dn_leaf ?_
            exact dn_lv [0] rfl (hE57 ())
          · refine dn_aload_n (pc := 65) r0 0 dX13_readsStep_65 rfl ?_
            refine dn_callV0U (pc := 66) [] r0 kRX13_508 (mX13_passesBlanks w x b r0) rfl rfl (Nat.le_of_ble_eq_true rfl) ⟨(Nat.le_of_ble_eq_true rfl), (Nat.le_of_ble_eq_true rfl)⟩ ⟨rfl, rfl, (Nat.le_of_ble_eq_true rfl), (Nat.le_of_ble_eq_true rfl)⟩ dX13_readsStep_66 (fun _ => ?_)
            refine dn_aload_n (pc := 69) r0 0 dX13_readsStep_69 rfl ?_
            refine dn_callV0Z (pc := 70) [] r0 kRX13_511 (mX13_readsNumber w x b r0) rfl rfl (Nat.le_of_ble_eq_true rfl) ⟨(Nat.le_of_ble_eq_true rfl), (Nat.le_of_ble_eq_true rfl)⟩ ⟨rfl, rfl, (Nat.le_of_ble_eq_true rfl), (Nat.le_of_ble_eq_true rfl)⟩ dX13_readsStep_70 (fun v10 => ?_)
            refine dn_ifz_ne (pc := 73) 78 dX13_readsStep_73 rfl (fun _ => ?_) (fun _ => ?_)
            · refine dn_aload_n (pc := 78) r0 0 dX13_readsStep_78 rfl ?_
              refine dn_getR (pc := 79) r0 lRX13_100 dX13_readsStep_79 (fun v11 => ?_)
              refine dn_iconst (pc := 82) (v := 5) dX13_readsStep_82 rfl ?_
              refine dn_aload_n (pc := 83) r0 0 dX13_readsStep_83 rfl ?_
              refine dn_getI (pc := 84) r0 lRX13_496 dX13_readsStep_84 (fun v12 => ?_)
              refine dn_imul (pc := 87) dX13_readsStep_87 ?_
              refine dn_iload_n (pc := 88) 2 dX13_readsStep_88 rfl ?_
              refine dn_iadd (pc := 89) dX13_readsStep_89 ?_
              refine dn_aload_n (pc := 90) r0 0 dX13_readsStep_90 rfl ?_
              refine dn_getI (pc := 91) r0 lRX13_490 dX13_readsStep_91 (fun v13 => ?_)
              refine dn_iast (pc := 94) v11 dX13_readsStep_94 ?_
              refine dn_iinc (pc := 95) (s57 + 1) 2 dX13_readsStep_95 rfl rfl (Nat.le_of_ble_eq_true rfl) (dnKp_nb 1 rfl rfl rfl (dnKp_of (lv2 := [(0, dnV b r0)]) [0] rfl rfl)) ?_
              refine dn_goto (pc := 98) 57 dX13_readsStep_98 rfl ?_
              refine dn_leaf ?_
              exact dn_lv [2, 1, 0] rfl (hK57 (s57 + 1))
            · refine dn_iconst (pc := 76) (v := 0) dX13_readsStep_76 rfl ?_
              refine dn_leaf ?_
              exact hR57 false _ _ _ rfl dX13_readsStep_77
        · dsimp only [Sum.elim_inl]
          refine dn_aload_n (pc := 101) r0 0 dX13_readsStep_101 rfl ?_
          refine dn_callV0U (pc := 102) [] r0 kRX13_508 (mX13_passesBlanks w x b r0) rfl rfl (Nat.le_of_ble_eq_true rfl) ⟨(Nat.le_of_ble_eq_true rfl), (Nat.le_of_ble_eq_true rfl)⟩ ⟨rfl, rfl, (Nat.le_of_ble_eq_true rfl), (Nat.le_of_ble_eq_true rfl)⟩ dX13_readsStep_102 (fun _ => ?_)
          refine dn_aload_n (pc := 105) r0 0 dX13_readsStep_105 rfl ?_
          refine dn_getI (pc := 106) r0 lRX13_469 dX13_readsStep_106 (fun v15 => ?_)
          refine dn_aload_n (pc := 109) r0 0 dX13_readsStep_109 rfl ?_
          refine dn_getI (pc := 110) r0 lRX13_466 dX13_readsStep_110 (fun v16 => ?_)
          refine dn_icmp_eq (pc := 113) 130 dX13_readsStep_113 rfl (fun _ => ?_) (fun _ => ?_)
          · refine dn_iconst (pc := 130) (v := 0) dX13_readsStep_130 rfl ?_
            exact dn_ret (Nat.le_of_ble_eq_true rfl) (Nat.le_of_ble_eq_true rfl) rfl dX13_readsStep_131
          · refine dn_aload_n (pc := 116) r0 0 dX13_readsStep_116 rfl ?_
            refine dn_getR (pc := 117) r0 lRX13_94 dX13_readsStep_117 (fun v17 => ?_)
            refine dn_aload_n (pc := 120) r0 0 dX13_readsStep_120 rfl ?_
            refine dn_getI (pc := 121) r0 lRX13_469 dX13_readsStep_121 (fun v18 => ?_)
            refine dn_iald (pc := 124) v17 dX13_readsStep_124 (fun v19 => ?_)
            refine dn_bipush (pc := 125) (v := 59) dX13_readsStep_125 rfl ?_
            refine dn_icmp_eq (pc := 127) 132 dX13_readsStep_127 rfl (fun _ => ?_) (fun _ => ?_)
            · refine dn_aload_n (pc := 132) r0 0 dX13_readsStep_132 rfl ?_
              refine dn_dup (pc := 133) dX13_readsStep_133 (dn_cat b _) ?_
              refine dn_getI (pc := 134) r0 lRX13_469 dX13_readsStep_134 (fun v20 => ?_)
              refine dn_iconst (pc := 137) (v := 1) dX13_readsStep_137 rfl ?_
              refine dn_iadd (pc := 138) dX13_readsStep_138 ?_
              refine dn_putI (pc := 139) r0 lRX13_469 dX13_readsStep_139 ?_
              refine dn_aload_n (pc := 142) r0 0 dX13_readsStep_142 rfl ?_
              refine dn_dup (pc := 143) dX13_readsStep_143 (dn_cat b _) ?_
              refine dn_getI (pc := 144) r0 lRX13_496 dX13_readsStep_144 (fun v21 => ?_)
              refine dn_iconst (pc := 147) (v := 1) dX13_readsStep_147 rfl ?_
              refine dn_iadd (pc := 148) dX13_readsStep_148 ?_
              refine dn_putI (pc := 149) r0 lRX13_496 dX13_readsStep_149 ?_
              refine dn_iconst (pc := 152) (v := 1) dX13_readsStep_152 rfl ?_
              exact dn_ret (Nat.le_of_ble_eq_true rfl) (Nat.le_of_ble_eq_true rfl) rfl dX13_readsStep_153
            · refine dn_iconst (pc := 130) (v := 0) dX13_readsStep_130 rfl ?_
              exact dn_ret (Nat.le_of_ble_eq_true rfl) (Nat.le_of_ble_eq_true rfl) rfl dX13_readsStep_131
      · refine dn_aload_n (pc := 38) r0 2 dX13_readsStep_38 rfl ?_
        refine dn_iload_n (pc := 39) 1 dX13_readsStep_39 rfl ?_
        refine dn_putI (pc := 40) r0 lRX13_469 dX13_readsStep_40 ?_
        refine dn_iconst (pc := 43) (v := 0) dX13_readsStep_43 rfl ?_
        exact dn_ret (Nat.le_of_ble_eq_true rfl) (Nat.le_of_ble_eq_true rfl) rfl dX13_readsStep_44
    · refine dn_iconst (pc := 22) (v := 0) dX13_readsStep_22 rfl ?_
      exact dn_ret (Nat.le_of_ble_eq_true rfl) (Nat.le_of_ble_eq_true rfl) rfl dX13_readsStep_23
  · refine dn_iconst (pc := 22) (v := 0) dX13_readsStep_22 rfl ?_
    exact dn_ret (Nat.le_of_ble_eq_true rfl) (Nat.le_of_ble_eq_true rfl) rfl dX13_readsStep_23
abbrev rmX13_reads : Room := { frames := 4, cells := 0, slots := 0, locals := 89 }
def fX13_reads_b14 (c0 : Option Nat) (s14 : Unit) : dnM ((Unit) ⊕ ((Unit) ⊕ Bool)) :=
  dnB (dnGI c0 11 38) fun v2 =>
  dnB (dnGI c0 11 37) fun v3 =>
  if v3 ≤ v2 then
  (dnP (.inr (.inl ())))
  else
  (dnB (dnCv c0 11 (fX13_readsStep c0)) fun v4 =>
  if v4 = true then
  (dnB (dnCv c0 11 (fX13_passesBlanks c0)) fun _ =>
  dnP (.inl ()))
  else
  (dnP (.inr (.inr false))))
def fX13_reads (r0 : Option Nat) : dnM Bool :=
  dnB (dnPI r0 11 38 0) fun _ =>
  dnB (dnPI r0 11 40 0) fun _ =>
  dnB (dnCv r0 11 (fX13_passesBlanks r0)) fun _ =>
  dnB (dnIt 1000 (fX13_reads_b14 r0) ()) fun q_ => q_.elim (fun q14 => dnP true) (fun v_ => dnP v_)
abbrev jX13_reads (w : dnWd) (x : dnX) (b : Nat) := dnD w x b (fun _ => True) cX13_reads RX13 1 rmX13_reads "reads" eZ
set_option maxHeartbeats 4000000 in
set_option maxRecDepth 100000 in
theorem mX13_reads (w : dnWd) (x : dnX) (b : Nat) (r0 : Option Nat) : dnMt w x b yX13_reads cX13_reads 1 (some .boolean) rmX13_reads eZ [dnV b r0] (fX13_reads r0) := by
  have hlv : lv_args 0 [dnV b r0] = [(0, dnV b r0)] := by cases r0 <;> rfl
  refine dn_mt (by decide +kernel) roZ (by cases r0 <;> exact (Nat.le_of_ble_eq_true rfl)) ?_
  rw [hlv]
  refine dn_top ?_
  show jX13_reads w x b 0 0 0 _ [] (dnB _ dnP)
  unfold fX13_reads
  refine dn_aload_n (pc := 0) r0 0 dX13_reads_0 rfl ?_
  refine dn_iconst (pc := 1) (v := 0) dX13_reads_1 rfl ?_
  refine dn_putI (pc := 2) r0 lRX13_469 dX13_reads_2 ?_
  refine dn_aload_n (pc := 5) r0 0 dX13_reads_5 rfl ?_
  refine dn_iconst (pc := 6) (v := 0) dX13_reads_6 rfl ?_
  refine dn_putI (pc := 7) r0 lRX13_496 dX13_reads_7 ?_
  refine dn_aload_n (pc := 10) r0 0 dX13_reads_10 rfl ?_
  refine dn_callV0U (pc := 11) [] r0 kRX13_508 (mX13_passesBlanks w x b r0) rfl rfl (Nat.le_of_ble_eq_true rfl) ⟨(Nat.le_of_ble_eq_true rfl), (Nat.le_of_ble_eq_true rfl)⟩ ⟨rfl, rfl, (Nat.le_of_ble_eq_true rfl), (Nat.le_of_ble_eq_true rfl)⟩ dX13_reads_11 (fun _ => ?_)
  refine dn_assoc ?_
  refine dn_lv [0] (lv2 := (fun s => [(0, dnV b r0)]) ()) rfl ?_
  refine dn_loopR (pc := 14) (body := fX13_reads_b14 r0) 41 (fun s => [(0, dnV b r0)]) (fun q => []) (fun s14 K14 E14 hK14 hE14 hR14 => ?_) (dn_rt (Nat.le_of_ble_eq_true rfl) (Nat.le_of_ble_eq_true rfl) (fun _ => rfl)) (fun q14 => ?_) 1000 ()
  · unfold fX13_reads_b14
    refine dn_aload_n (pc := 14) r0 0 dX13_reads_14 rfl ?_
    refine dn_getI (pc := 15) r0 lRX13_469 dX13_reads_15 (fun v2 => ?_)
    refine dn_aload_n (pc := 18) r0 0 dX13_reads_18 rfl ?_
    refine dn_getI (pc := 19) r0 lRX13_466 dX13_reads_19 (fun v3 => ?_)
    refine dn_icmp_ge (pc := 22) 41 dX13_reads_22 rfl (fun _ => ?_) (fun _ => ?_)
    · refine dn_leaf ?_
      exact dn_lv [] rfl (hE14 ())
    · refine dn_aload_n (pc := 25) r0 0 dX13_reads_25 rfl ?_
      refine dn_callV0Z (pc := 26) [] r0 kRX13_515 (mX13_readsStep w x b r0) rfl rfl (Nat.le_of_ble_eq_true rfl) ⟨(Nat.le_of_ble_eq_true rfl), (Nat.le_of_ble_eq_true rfl)⟩ ⟨rfl, rfl, (Nat.le_of_ble_eq_true rfl), (Nat.le_of_ble_eq_true rfl)⟩ dX13_reads_26 (fun v4 => ?_)
      refine dn_ifz_ne (pc := 29) 34 dX13_reads_29 rfl (fun _ => ?_) (fun _ => ?_)
      · refine dn_aload_n (pc := 34) r0 0 dX13_reads_34 rfl ?_
        refine dn_callV0U (pc := 35) [] r0 kRX13_508 (mX13_passesBlanks w x b r0) rfl rfl (Nat.le_of_ble_eq_true rfl) ⟨(Nat.le_of_ble_eq_true rfl), (Nat.le_of_ble_eq_true rfl)⟩ ⟨rfl, rfl, (Nat.le_of_ble_eq_true rfl), (Nat.le_of_ble_eq_true rfl)⟩ dX13_reads_35 (fun _ => ?_)
        refine dn_goto (pc := 38) 14 dX13_reads_38 rfl ?_
        refine dn_leaf ?_
        exact dn_lv [0] rfl (hK14 ())
      · refine dn_iconst (pc := 32) (v := 0) dX13_reads_32 rfl ?_
        refine dn_leaf ?_
        exact hR14 false _ _ _ rfl dX13_reads_33
  · dsimp only [Sum.elim_inl]
    refine dn_iconst (pc := 41) (v := 1) dX13_reads_41 rfl ?_
    exact dn_ret (Nat.le_of_ble_eq_true rfl) (Nat.le_of_ble_eq_true rfl) rfl dX13_reads_42
abbrev rmX13_planDeed : Room := { frames := 7, cells := 0, slots := 0, locals := 166 }
def fX13_planDeed_b22 (c0 : Option Nat) (s22 : Int32) : dnM ((Int32) ⊕ ((Unit) ⊕ Int32)) :=
  dnB (dnGI c0 11 40) fun v3 =>
  if v3 ≤ s22 then
  (dnP (.inr (.inl ())))
  else
  (dnB (dnGR c0 11 41) fun v4 =>
  dnB (dnAI v4 100 s22) fun v5 =>
  dnB (dnGR c0 11 42) fun v6 =>
  dnB (dnAI v6 100 (5 * s22)) fun v7 =>
  dnB (dnGR c0 11 42) fun v8 =>
  dnB (dnAI v8 100 ((5 * s22) + 1)) fun v9 =>
  dnB (dnGR c0 11 42) fun v10 =>
  dnB (dnAI v10 100 ((5 * s22) + 2)) fun v11 =>
  dnB (dnGR c0 11 42) fun v12 =>
  dnB (dnAI v12 100 ((5 * s22) + 3)) fun v13 =>
  dnB (dnGR c0 11 42) fun v14 =>
  dnB (dnAI v14 100 ((5 * s22) + 4)) fun v15 =>
  dnB (dnCv c0 11 (fX13_does c0 v5 v7 v9 v11 v13 v15)) fun v16 =>
  dnB (dnCv c0 11 (fX13_ends c0)) fun _ =>
  if 0 ≤ v16 then
  (dnP (.inl (s22 + 1)))
  else
  (dnB (dnCv c0 11 (fX13_comesBack c0 2)) fun _ =>
  dnB (dnPI c0 11 2 s22) fun _ =>
  dnP (.inr (.inr v16))))
def fX13_planDeed (r0 : Option Nat) : dnM Int32 :=
  dnB (dnCv r0 11 (fX13_reads r0)) fun v1 =>
  if v1 = true then
  (dnB (dnCv r0 11 (fX13_keeps r0 2)) fun _ =>
  dnB (dnIt 1000 (fX13_planDeed_b22 r0) 0) fun q_ => q_.elim (fun q22 => dnB (dnGI r0 11 40) fun v19 =>
  dnP v19) (fun v_ => dnP v_))
  else
  (dnB (dnGI r0 11 38) fun v20 =>
  dnP ((-20) - v20))
abbrev jX13_planDeed (w : dnWd) (x : dnX) (b : Nat) := dnD w x b (fun _ => True) cX13_planDeed RX13 4 rmX13_planDeed "planDeed" eI
set_option maxHeartbeats 4000000 in
set_option maxRecDepth 100000 in
theorem mX13_planDeed (w : dnWd) (x : dnX) (b : Nat) (r0 : Option Nat) : dnMt w x b yX13_planDeed cX13_planDeed 4 (some .int) rmX13_planDeed eI [dnV b r0] (fX13_planDeed r0) := by
  have hlv : lv_args 0 [dnV b r0] = [(0, dnV b r0)] := by cases r0 <;> rfl
  refine dn_mt (by decide +kernel) roI (by cases r0 <;> exact (Nat.le_of_ble_eq_true rfl)) ?_
  rw [hlv]
  refine dn_top ?_
  show jX13_planDeed w x b 0 0 0 _ [] (dnB _ dnP)
  unfold fX13_planDeed
  refine dn_aload_n (pc := 0) r0 0 dX13_planDeed_0 rfl ?_
  refine dn_callV0Z (pc := 1) [] r0 kRX13_518 (mX13_reads w x b r0) rfl rfl (Nat.le_of_ble_eq_true rfl) ⟨(Nat.le_of_ble_eq_true rfl), (Nat.le_of_ble_eq_true rfl)⟩ ⟨rfl, rfl, (Nat.le_of_ble_eq_true rfl), (Nat.le_of_ble_eq_true rfl)⟩ dX13_planDeed_1 (fun v1 => ?_)
  refine dn_ifz_ne (pc := 4) 15 dX13_planDeed_4 rfl (fun _ => ?_) (fun _ => ?_)
  · refine dn_aload_n (pc := 15) r0 0 dX13_planDeed_15 rfl ?_
    refine dn_iconst (pc := 16) (v := 2) dX13_planDeed_16 rfl ?_
    refine dn_callV0U (pc := 17) [.int 2] r0 kRX13_456 (mX13_keeps w x b r0 2) rfl rfl (Nat.le_of_ble_eq_true rfl) ⟨(Nat.le_of_ble_eq_true rfl), (Nat.le_of_ble_eq_true rfl)⟩ ⟨rfl, rfl, (Nat.le_of_ble_eq_true rfl), (Nat.le_of_ble_eq_true rfl)⟩ dX13_planDeed_17 (fun _ => ?_)
    refine dn_iconst (pc := 20) (v := 0) dX13_planDeed_20 rfl ?_
    refine dn_istore_n (pc := 21) dX13_planDeed_21 (Nat.le_of_ble_eq_true rfl) (dnKp_nb 0 rfl (dn_cat b _) rfl (dnKp_of (lv2 := []) [] rfl rfl)) ?_
    refine dn_assoc ?_
    refine dn_lv [1, 0] (lv2 := (fun s => [(0, dnV b r0), (1, .int s)]) 0) rfl ?_
    refine dn_loopR (pc := 22) (body := fX13_planDeed_b22 r0) 109 (fun s => [(0, dnV b r0), (1, .int s)]) (fun q => [(0, dnV b r0)]) (fun s22 K22 E22 hK22 hE22 hR22 => ?_) (dn_rt (Nat.le_of_ble_eq_true rfl) (Nat.le_of_ble_eq_true rfl) (fun _ => rfl)) (fun q22 => ?_) 1000 0
    · unfold fX13_planDeed_b22
      refine dn_iload_n (pc := 22) 1 dX13_planDeed_22 rfl ?_
      refine dn_aload_n (pc := 23) r0 0 dX13_planDeed_23 rfl ?_
      refine dn_getI (pc := 24) r0 lRX13_496 dX13_planDeed_24 (fun v3 => ?_)
      refine dn_icmp_ge (pc := 27) 109 dX13_planDeed_27 rfl (fun _ => ?_) (fun _ => ?_)
      · refine dn_leaf ?_
        exact dn_lv [0] rfl (hE22 ())
      · refine dn_iconst (pc := 30) (v := 5) dX13_planDeed_30 rfl ?_
        refine dn_iload_n (pc := 31) 1 dX13_planDeed_31 rfl ?_
        refine dn_imul (pc := 32) dX13_planDeed_32 ?_
        refine dn_istore_n (pc := 33) dX13_planDeed_33 (Nat.le_of_ble_eq_true rfl) (dnKp_nb 1 rfl rfl rfl (dnKp_of (lv2 := [(0, dnV b r0)]) [0] rfl rfl)) ?_
        refine dn_aload_n (pc := 34) r0 2 dX13_planDeed_34 rfl ?_
        refine dn_aload_n (pc := 35) r0 2 dX13_planDeed_35 rfl ?_
        refine dn_getR (pc := 36) r0 lRX13_97 dX13_planDeed_36 (fun v4 => ?_)
        refine dn_iload_n (pc := 39) 1 dX13_planDeed_39 rfl ?_
        refine dn_iald (pc := 40) v4 dX13_planDeed_40 (fun v5 => ?_)
        refine dn_aload_n (pc := 41) r0 2 dX13_planDeed_41 rfl ?_
        refine dn_getR (pc := 42) r0 lRX13_100 dX13_planDeed_42 (fun v6 => ?_)
        refine dn_iload_n (pc := 45) 0 dX13_planDeed_45 rfl ?_
        refine dn_iald (pc := 46) v6 dX13_planDeed_46 (fun v7 => ?_)
        refine dn_aload_n (pc := 47) r0 2 dX13_planDeed_47 rfl ?_
        refine dn_getR (pc := 48) r0 lRX13_100 dX13_planDeed_48 (fun v8 => ?_)
        refine dn_iload_n (pc := 51) 0 dX13_planDeed_51 rfl ?_
        refine dn_iconst (pc := 52) (v := 1) dX13_planDeed_52 rfl ?_
        refine dn_iadd (pc := 53) dX13_planDeed_53 ?_
        refine dn_iald (pc := 54) v8 dX13_planDeed_54 (fun v9 => ?_)
        refine dn_aload_n (pc := 55) r0 2 dX13_planDeed_55 rfl ?_
        refine dn_getR (pc := 56) r0 lRX13_100 dX13_planDeed_56 (fun v10 => ?_)
        refine dn_iload_n (pc := 59) 0 dX13_planDeed_59 rfl ?_
        refine dn_iconst (pc := 60) (v := 2) dX13_planDeed_60 rfl ?_
        refine dn_iadd (pc := 61) dX13_planDeed_61 ?_
        refine dn_iald (pc := 62) v10 dX13_planDeed_62 (fun v11 => ?_)
        refine dn_aload_n (pc := 63) r0 2 dX13_planDeed_63 rfl ?_
        refine dn_getR (pc := 64) r0 lRX13_100 dX13_planDeed_64 (fun v12 => ?_)
        refine dn_iload_n (pc := 67) 0 dX13_planDeed_67 rfl ?_
        refine dn_iconst (pc := 68) (v := 3) dX13_planDeed_68 rfl ?_
        refine dn_iadd (pc := 69) dX13_planDeed_69 ?_
        refine dn_iald (pc := 70) v12 dX13_planDeed_70 (fun v13 => ?_)
        refine dn_aload_n (pc := 71) r0 2 dX13_planDeed_71 rfl ?_
        refine dn_getR (pc := 72) r0 lRX13_100 dX13_planDeed_72 (fun v14 => ?_)
        refine dn_iload_n (pc := 75) 0 dX13_planDeed_75 rfl ?_
        refine dn_iconst (pc := 76) (v := 4) dX13_planDeed_76 rfl ?_
        refine dn_iadd (pc := 77) dX13_planDeed_77 ?_
        refine dn_iald (pc := 78) v14 dX13_planDeed_78 (fun v15 => ?_)
        refine dn_callV0I (pc := 79) [.int v5, .int v7, .int v9, .int v11, .int v13, .int v15] r0 kRX13_521 (mX13_does w x b r0 v5 v7 v9 v11 v13 v15) rfl rfl (Nat.le_of_ble_eq_true rfl) ⟨(Nat.le_of_ble_eq_true rfl), (Nat.le_of_ble_eq_true rfl)⟩ ⟨rfl, rfl, (Nat.le_of_ble_eq_true rfl), (Nat.le_of_ble_eq_true rfl)⟩ dX13_planDeed_79 (fun v16 => ?_)
        refine dn_istore_n (pc := 82) dX13_planDeed_82 (Nat.le_of_ble_eq_true rfl) (dnKp_of (lv2 := [(1, .int s22), (0, dnV b r0)]) [1, 2] rfl rfl) ?_
        refine dn_aload_n (pc := 83) r0 2 dX13_planDeed_83 rfl ?_
        refine dn_callV0U (pc := 84) [] r0 kRX13_113 (mX13_ends w x b r0) rfl rfl (Nat.le_of_ble_eq_true rfl) ⟨(Nat.le_of_ble_eq_true rfl), (Nat.le_of_ble_eq_true rfl)⟩ ⟨rfl, rfl, (Nat.le_of_ble_eq_true rfl), (Nat.le_of_ble_eq_true rfl)⟩ dX13_planDeed_84 (fun _ => ?_)
        refine dn_iload_n (pc := 87) 0 dX13_planDeed_87 rfl ?_
        refine dn_if_ge (pc := 88) 103 dX13_planDeed_88 rfl (fun _ => ?_) (fun _ => ?_)
        · refine dn_iinc (pc := 103) (s22 + 1) 1 dX13_planDeed_103 rfl rfl (Nat.le_of_ble_eq_true rfl) (dnKp_nb 2 rfl (dn_cat b _) rfl (dnKp_of (lv2 := []) [] rfl rfl)) ?_
          refine dn_goto (pc := 106) 22 dX13_planDeed_106 rfl ?_
          refine dn_leaf ?_
          exact dn_lv [1, 0] rfl (hK22 (s22 + 1))
        · refine dn_aload_n (pc := 91) r0 2 dX13_planDeed_91 rfl ?_
          refine dn_iconst (pc := 92) (v := 2) dX13_planDeed_92 rfl ?_
          refine dn_callV0U (pc := 93) [.int 2] r0 kRX13_463 (mX13_comesBack w x b r0 2) rfl rfl (Nat.le_of_ble_eq_true rfl) ⟨(Nat.le_of_ble_eq_true rfl), (Nat.le_of_ble_eq_true rfl)⟩ ⟨rfl, rfl, (Nat.le_of_ble_eq_true rfl), (Nat.le_of_ble_eq_true rfl)⟩ dX13_planDeed_93 (fun _ => ?_)
          refine dn_aload_n (pc := 96) r0 2 dX13_planDeed_96 rfl ?_
          refine dn_iload_n (pc := 97) 1 dX13_planDeed_97 rfl ?_
          refine dn_putI (pc := 98) r0 lRX13_13 dX13_planDeed_98 ?_
          refine dn_iload_n (pc := 101) 0 dX13_planDeed_101 rfl ?_
          refine dn_leaf ?_
          exact hR22 v16 _ _ _ rfl dX13_planDeed_102
    · dsimp only [Sum.elim_inl]
      refine dn_aload_n (pc := 109) r0 0 dX13_planDeed_109 rfl ?_
      refine dn_getI (pc := 110) r0 lRX13_496 dX13_planDeed_110 (fun v19 => ?_)
      exact dn_ret (Nat.le_of_ble_eq_true rfl) (Nat.le_of_ble_eq_true rfl) rfl dX13_planDeed_113
  · refine dn_bipush (pc := 7) (v := -20) dX13_planDeed_7 rfl ?_
    refine dn_aload_n (pc := 9) r0 0 dX13_planDeed_9 rfl ?_
    refine dn_getI (pc := 10) r0 lRX13_469 dX13_planDeed_10 (fun v20 => ?_)
    refine dn_isub (pc := 13) dX13_planDeed_13 ?_
    exact dn_ret (Nat.le_of_ble_eq_true rfl) (Nat.le_of_ble_eq_true rfl) rfl dX13_planDeed_14
abbrev rmX13_plan : Room := { frames := 8, cells := 0, slots := 0, locals := 189 }
def fX13_plan (r0 : Option Nat) : dnM Int32 :=
  dnB (dnCv r0 11 (fX13_planDeed r0)) fun v1 =>
  dnB (dnCv r0 11 (fX13_said r0 v1)) fun v2 =>
  dnP v2
abbrev jX13_plan (w : dnWd) (x : dnX) (b : Nat) := dnD w x b (fun _ => True) cX13_plan RX13 1 rmX13_plan "plan" eI
set_option maxHeartbeats 4000000 in
set_option maxRecDepth 100000 in
theorem mX13_plan (w : dnWd) (x : dnX) (b : Nat) (r0 : Option Nat) : dnMt w x b yX13_plan cX13_plan 1 (some .int) rmX13_plan eI [dnV b r0] (fX13_plan r0) := by
  have hlv : lv_args 0 [dnV b r0] = [(0, dnV b r0)] := by cases r0 <;> rfl
  refine dn_mt (by decide +kernel) roI (by cases r0 <;> exact (Nat.le_of_ble_eq_true rfl)) ?_
  rw [hlv]
  refine dn_top ?_
  show jX13_plan w x b 0 0 0 _ [] (dnB _ dnP)
  unfold fX13_plan
  refine dn_aload_n (pc := 0) r0 0 dX13_plan_0 rfl ?_
  refine dn_aload_n (pc := 1) r0 0 dX13_plan_1 rfl ?_
  refine dn_callV0I (pc := 2) [] r0 kRX13_525 (mX13_planDeed w x b r0) rfl rfl (Nat.le_of_ble_eq_true rfl) ⟨(Nat.le_of_ble_eq_true rfl), (Nat.le_of_ble_eq_true rfl)⟩ ⟨rfl, rfl, (Nat.le_of_ble_eq_true rfl), (Nat.le_of_ble_eq_true rfl)⟩ dX13_plan_2 (fun v1 => ?_)
  refine dn_callV0I (pc := 5) [.int v1] r0 kRX13_137 (mX13_said w x b r0 v1) rfl rfl (Nat.le_of_ble_eq_true rfl) ⟨(Nat.le_of_ble_eq_true rfl), (Nat.le_of_ble_eq_true rfl)⟩ ⟨rfl, rfl, (Nat.le_of_ble_eq_true rfl), (Nat.le_of_ble_eq_true rfl)⟩ dX13_plan_5 (fun v2 => ?_)
  exact dn_ret (Nat.le_of_ble_eq_true rfl) (Nat.le_of_ble_eq_true rfl) rfl dX13_plan_8
abbrev rmX13_pourDeed : Room := { frames := 4, cells := 0, slots := 0, locals := 93 }
def fX13_pourDeed_j117 (l0 : Option Nat) (l6 : Int32) (l7 : Int32) (l8 : Int32) (l9 : Int32) : dnM ((Int32 × Int32) ⊕ (Int32)) :=
  dnP (.inl (l8, (l9 + 1)))
def fX13_pourDeed_b64 (c0 : Option Nat) (c6 : Int32) (c7 : Int32) (s64 : Int32 × Int32) : dnM ((Int32 × Int32) ⊕ (Int32)) :=
  dnB (dnCv c0 11 (fX13_both c0 c6 c7)) fun v6 =>
  if v6 ≤ s64.2 then
  (dnP (.inr s64.1))
  else
  (dnB (dnCv c0 11 (fX13_loads c0 c6 s64.2)) fun _ =>
  dnB (dnCv c0 11 (fX13_puts c0 c7 s64.2)) fun v8 =>
  if v8 = true then
  (fX13_pourDeed_j117 c0 c6 c7 (s64.1 + 1) s64.2)
  else
  (dnB (dnGI c0 11 2) fun v9 =>
  if ¬ v9 = (-9) then
  (fX13_pourDeed_j117 c0 c6 c7 s64.1 s64.2)
  else
  (dnB (dnPI c0 11 2 s64.2) fun _ =>
  fX13_pourDeed_j117 c0 c6 c7 s64.1 s64.2)))
def fX13_pourDeed (r0 : Option Nat) (p1 : Int32) (p2 : Int32) (p3 : Int32) (p4 : Int32) : dnM Int32 :=
  dnB (fX13_isGrid p1) fun v1 =>
  if v1 = true then
  (dnB (fX13_isGrid p3) fun v2 =>
  if v2 = true then
  (dnB (dnCv r0 11 (fX13_twoRows r0 p1 p2 p3 p4)) fun v3 =>
  if v3 = 0 then
  (dnB (dnCv r0 11 (fX13_held r0 p1 p2)) fun v4 =>
  dnB (dnCv r0 11 (fX13_held r0 p3 p4)) fun v5 =>
  dnB (dnPI r0 11 2 (-9)) fun _ =>
  dnB (dnIt 1000 (fX13_pourDeed_b64 r0 v4 v5) (0, 0)) fun q64 =>
  dnP q64)
  else
  (dnP v3))
  else
  (dnP (-1)))
  else
  (dnP (-1))
abbrev jX13_pourDeed (w : dnWd) (x : dnX) (b : Nat) := dnD w x b (fun _ => True) cX13_pourDeed RX13 10 rmX13_pourDeed "pourDeed" eI
set_option maxHeartbeats 4000000 in
set_option maxRecDepth 100000 in
theorem mX13_pourDeed (w : dnWd) (x : dnX) (b : Nat) (r0 : Option Nat) (p1 : Int32) (p2 : Int32) (p3 : Int32) (p4 : Int32) : dnMt w x b yX13_pourDeed cX13_pourDeed 10 (some .int) rmX13_pourDeed eI [dnV b r0, .int p1, .int p2, .int p3, .int p4] (fX13_pourDeed r0 p1 p2 p3 p4) := by
  have hlv : lv_args 0 [dnV b r0, .int p1, .int p2, .int p3, .int p4] = [(0, dnV b r0), (1, .int p1), (2, .int p2), (3, .int p3), (4, .int p4)] := by cases r0 <;> rfl
  refine dn_mt (by decide +kernel) roI (by cases r0 <;> exact (Nat.le_of_ble_eq_true rfl)) ?_
  rw [hlv]
  refine dn_top ?_
  show jX13_pourDeed w x b 0 0 0 _ [] (dnB _ dnP)
  unfold fX13_pourDeed
  refine dn_iload_n (pc := 0) 1 dX13_pourDeed_0 rfl ?_
  refine dn_callS0Z (pc := 1) [.int p1]  kRX13_134 (mX13_isGrid w x b p1) rfl rfl (Nat.le_of_ble_eq_true rfl) ⟨(Nat.le_of_ble_eq_true rfl), (Nat.le_of_ble_eq_true rfl)⟩ ⟨rfl, rfl, (Nat.le_of_ble_eq_true rfl), (Nat.le_of_ble_eq_true rfl)⟩ dX13_pourDeed_1 (fun v1 => ?_)
  refine dn_ifz_eq (pc := 4) 14 dX13_pourDeed_4 rfl (fun _ => ?_) (fun _ => ?_)
  · refine dn_iload_n (pc := 7) 3 dX13_pourDeed_7 rfl ?_
    refine dn_callS0Z (pc := 8) [.int p3]  kRX13_134 (mX13_isGrid w x b p3) rfl rfl (Nat.le_of_ble_eq_true rfl) ⟨(Nat.le_of_ble_eq_true rfl), (Nat.le_of_ble_eq_true rfl)⟩ ⟨rfl, rfl, (Nat.le_of_ble_eq_true rfl), (Nat.le_of_ble_eq_true rfl)⟩ dX13_pourDeed_8 (fun v2 => ?_)
    refine dn_ifz_ne (pc := 11) 16 dX13_pourDeed_11 rfl (fun _ => ?_) (fun _ => ?_)
    · refine dn_aload_n (pc := 16) r0 0 dX13_pourDeed_16 rfl ?_
      refine dn_iload_n (pc := 17) 1 dX13_pourDeed_17 rfl ?_
      refine dn_iload_n (pc := 18) 2 dX13_pourDeed_18 rfl ?_
      refine dn_iload_n (pc := 19) 3 dX13_pourDeed_19 rfl ?_
      refine dn_iload (pc := 20) 4 dX13_pourDeed_20 rfl ?_
      refine dn_callV0I (pc := 22) [.int p1, .int p2, .int p3, .int p4] r0 kRX13_181 (mX13_twoRows w x b r0 p1 p2 p3 p4) rfl rfl (Nat.le_of_ble_eq_true rfl) ⟨(Nat.le_of_ble_eq_true rfl), (Nat.le_of_ble_eq_true rfl)⟩ ⟨rfl, rfl, (Nat.le_of_ble_eq_true rfl), (Nat.le_of_ble_eq_true rfl)⟩ dX13_pourDeed_22 (fun v3 => ?_)
      refine dn_istore (pc := 25) dX13_pourDeed_25 (Nat.le_of_ble_eq_true rfl) (dnKp_nb 4 rfl rfl rfl (dnKp_of (lv2 := [(0, dnV b r0), (1, .int p1), (2, .int p2), (3, .int p3)]) [0, 1, 2, 3] rfl rfl)) ?_
      refine dn_iload (pc := 27) 0 dX13_pourDeed_27 rfl ?_
      refine dn_if_eq (pc := 29) 35 dX13_pourDeed_29 rfl (fun _ => ?_) (fun _ => ?_)
      · refine dn_aload_n (pc := 35) r0 2 dX13_pourDeed_35 rfl ?_
        refine dn_iload_n (pc := 36) 3 dX13_pourDeed_36 rfl ?_
        refine dn_iload_n (pc := 37) 4 dX13_pourDeed_37 rfl ?_
        refine dn_callV0I (pc := 38) [.int p1, .int p2] r0 kRX13_128 (mX13_held w x b r0 p1 p2) rfl rfl (Nat.le_of_ble_eq_true rfl) ⟨(Nat.le_of_ble_eq_true rfl), (Nat.le_of_ble_eq_true rfl)⟩ ⟨rfl, rfl, (Nat.le_of_ble_eq_true rfl), (Nat.le_of_ble_eq_true rfl)⟩ dX13_pourDeed_38 (fun v4 => ?_)
        refine dn_istore (pc := 41) dX13_pourDeed_41 (Nat.le_of_ble_eq_true rfl) (dnKp_of (lv2 := [(4, .int p4), (0, dnV b r0), (3, .int p3)]) [1, 2, 5] rfl rfl) ?_
        refine dn_aload_n (pc := 43) r0 2 dX13_pourDeed_43 rfl ?_
        refine dn_iload_n (pc := 44) 3 dX13_pourDeed_44 rfl ?_
        refine dn_iload (pc := 45) 1 dX13_pourDeed_45 rfl ?_
        refine dn_callV0I (pc := 47) [.int p3, .int p4] r0 kRX13_128 (mX13_held w x b r0 p3 p4) rfl rfl (Nat.le_of_ble_eq_true rfl) ⟨(Nat.le_of_ble_eq_true rfl), (Nat.le_of_ble_eq_true rfl)⟩ ⟨rfl, rfl, (Nat.le_of_ble_eq_true rfl), (Nat.le_of_ble_eq_true rfl)⟩ dX13_pourDeed_47 (fun v5 => ?_)
        refine dn_istore (pc := 50) dX13_pourDeed_50 (Nat.le_of_ble_eq_true rfl) (dnKp_nb 0 rfl rfl rfl (dnKp_of (lv2 := [(0, dnV b r0)]) [2] rfl rfl)) ?_
        refine dn_iconst (pc := 52) (v := 0) dX13_pourDeed_52 rfl ?_
        refine dn_istore (pc := 53) dX13_pourDeed_53 (Nat.le_of_ble_eq_true rfl) (dnKp_nb 0 rfl rfl rfl (dnKp_of (lv2 := [(6, .int v4), (0, dnV b r0)]) [1, 2] rfl rfl)) ?_
        refine dn_aload_n (pc := 55) r0 3 dX13_pourDeed_55 rfl ?_
        refine dn_bipush (pc := 56) (v := -9) dX13_pourDeed_56 rfl ?_
        refine dn_putI (pc := 58) r0 lRX13_13 dX13_pourDeed_58 ?_
        refine dn_iconst (pc := 61) (v := 0) dX13_pourDeed_61 rfl ?_
        refine dn_istore (pc := 62) dX13_pourDeed_62 (Nat.le_of_ble_eq_true rfl) (dnKp_nb 0 rfl rfl rfl (dnKp_of (lv2 := [(7, .int v5), (6, .int v4), (0, dnV b r0)]) [1, 2, 3] rfl rfl)) ?_
        refine dn_assoc ?_
        refine dn_lv [4, 3, 2, 1, 0] (lv2 := (fun s => [(0, dnV b r0), (6, .int v4), (7, .int v5), (8, .int s.1), (9, .int s.2)]) (0, 0)) rfl ?_
        refine dn_loopE (pc := 64) (body := fX13_pourDeed_b64 r0 v4 v5) 123 (fun s => [(0, dnV b r0), (6, .int v4), (7, .int v5), (8, .int s.1), (9, .int s.2)]) (fun q => [(8, .int q)]) (fun s64 K64 E64 hK64 hE64 => ?_) (fun q64 => ?_) 1000 (0, 0)
        · unfold fX13_pourDeed_b64
          have hj117 : ∀ (l8 : Int32) (l9 : Int32), jX13_pourDeed w x b 117 0 0 [(0, dnV b r0), (6, .int v4), (7, .int v5), (8, .int l8), (9, .int l9)] [] (dnB (fX13_pourDeed_j117 r0 v4 v5 l8 l9) (dnKo K64 E64)) := by
            intro l8 l9
            unfold fX13_pourDeed_j117
            refine dn_iinc (pc := 117) (l9 + 1) 4 dX13_pourDeed_117 rfl rfl (Nat.le_of_ble_eq_true rfl) (dnKp_nb 3 rfl rfl rfl (dnKp_of (lv2 := [(0, dnV b r0), (6, .int v4), (7, .int v5)]) [0, 1, 2] rfl rfl)) ?_
            refine dn_goto (pc := 120) 64 dX13_pourDeed_120 rfl ?_
            refine dn_leaf ?_
            exact dn_lv [2, 3, 4, 1, 0] rfl (hK64 (l8, (l9 + 1)))
          refine dn_iload (pc := 64) 4 dX13_pourDeed_64 rfl ?_
          refine dn_aload_n (pc := 66) r0 0 dX13_pourDeed_66 rfl ?_
          refine dn_iload (pc := 67) 1 dX13_pourDeed_67 rfl ?_
          refine dn_iload (pc := 69) 2 dX13_pourDeed_69 rfl ?_
          refine dn_callV0I (pc := 71) [.int v4, .int v5] r0 kRX13_271 (mX13_both w x b r0 v4 v5) rfl rfl (Nat.le_of_ble_eq_true rfl) ⟨(Nat.le_of_ble_eq_true rfl), (Nat.le_of_ble_eq_true rfl)⟩ ⟨rfl, rfl, (Nat.le_of_ble_eq_true rfl), (Nat.le_of_ble_eq_true rfl)⟩ dX13_pourDeed_71 (fun v6 => ?_)
          refine dn_icmp_ge (pc := 74) 123 dX13_pourDeed_74 rfl (fun _ => ?_) (fun _ => ?_)
          · refine dn_leaf ?_
            exact dn_lv [3] rfl (hE64 s64.1)
          · refine dn_aload_n (pc := 77) r0 0 dX13_pourDeed_77 rfl ?_
            refine dn_iload (pc := 78) 1 dX13_pourDeed_78 rfl ?_
            refine dn_iload (pc := 80) 4 dX13_pourDeed_80 rfl ?_
            refine dn_callV0U (pc := 82) [.int v4, .int s64.2] r0 kRX13_236 (mX13_loads w x b r0 v4 s64.2) rfl rfl (Nat.le_of_ble_eq_true rfl) ⟨(Nat.le_of_ble_eq_true rfl), (Nat.le_of_ble_eq_true rfl)⟩ ⟨rfl, rfl, (Nat.le_of_ble_eq_true rfl), (Nat.le_of_ble_eq_true rfl)⟩ dX13_pourDeed_82 (fun _ => ?_)
            refine dn_aload_n (pc := 85) r0 0 dX13_pourDeed_85 rfl ?_
            refine dn_iload (pc := 86) 2 dX13_pourDeed_86 rfl ?_
            refine dn_iload (pc := 88) 4 dX13_pourDeed_88 rfl ?_
            refine dn_callV0Z (pc := 90) [.int v5, .int s64.2] r0 kRX13_254 (mX13_puts w x b r0 v5 s64.2) rfl rfl (Nat.le_of_ble_eq_true rfl) ⟨(Nat.le_of_ble_eq_true rfl), (Nat.le_of_ble_eq_true rfl)⟩ ⟨rfl, rfl, (Nat.le_of_ble_eq_true rfl), (Nat.le_of_ble_eq_true rfl)⟩ dX13_pourDeed_90 (fun v8 => ?_)
            refine dn_ifz_eq (pc := 93) 102 dX13_pourDeed_93 rfl (fun _ => ?_) (fun _ => ?_)
            · refine dn_iinc (pc := 96) (s64.1 + 1) 3 dX13_pourDeed_96 rfl rfl (Nat.le_of_ble_eq_true rfl) (dnKp_nb 2 rfl rfl rfl (dnKp_of (lv2 := [(0, dnV b r0), (6, .int v4), (9, .int s64.2)]) [0, 1, 4] rfl rfl)) ?_
              refine dn_goto (pc := 99) 117 dX13_pourDeed_99 rfl ?_
              exact dn_lv [2, 3, 1, 0, 4] rfl (hj117 (s64.1 + 1) s64.2)
            · refine dn_aload_n (pc := 102) r0 0 dX13_pourDeed_102 rfl ?_
              refine dn_getI (pc := 103) r0 lRX13_13 dX13_pourDeed_103 (fun v9 => ?_)
              refine dn_bipush (pc := 106) (v := -9) dX13_pourDeed_106 rfl ?_
              refine dn_icmp_ne (pc := 108) 117 dX13_pourDeed_108 rfl (fun _ => ?_) (fun _ => ?_)
              · exact dn_lv [0, 1, 2, 3, 4] rfl (hj117 s64.1 s64.2)
              · refine dn_aload_n (pc := 111) r0 0 dX13_pourDeed_111 rfl ?_
                refine dn_iload (pc := 112) 4 dX13_pourDeed_112 rfl ?_
                refine dn_putI (pc := 114) r0 lRX13_13 dX13_pourDeed_114 ?_
                exact dn_lv [0, 1, 2, 3, 4] rfl (hj117 s64.1 s64.2)
        · refine dn_iload (pc := 123) 0 dX13_pourDeed_123 rfl ?_
          exact dn_ret (Nat.le_of_ble_eq_true rfl) (Nat.le_of_ble_eq_true rfl) rfl dX13_pourDeed_125
      · refine dn_iload (pc := 32) 0 dX13_pourDeed_32 rfl ?_
        exact dn_ret (Nat.le_of_ble_eq_true rfl) (Nat.le_of_ble_eq_true rfl) rfl dX13_pourDeed_34
    · refine dn_iconst (pc := 14) (v := -1) dX13_pourDeed_14 rfl ?_
      exact dn_ret (Nat.le_of_ble_eq_true rfl) (Nat.le_of_ble_eq_true rfl) rfl dX13_pourDeed_15
  · refine dn_iconst (pc := 14) (v := -1) dX13_pourDeed_14 rfl ?_
    exact dn_ret (Nat.le_of_ble_eq_true rfl) (Nat.le_of_ble_eq_true rfl) rfl dX13_pourDeed_15
abbrev rmX13_pour : Room := { frames := 5, cells := 0, slots := 0, locals := 122 }
def fX13_pour (r0 : Option Nat) (p1 : Int32) (p2 : Int32) (p3 : Int32) (p4 : Int32) : dnM Int32 :=
  dnB (dnCv r0 11 (fX13_pourDeed r0 p1 p2 p3 p4)) fun v1 =>
  dnB (dnCv r0 11 (fX13_said r0 v1)) fun v2 =>
  dnP v2
abbrev jX13_pour (w : dnWd) (x : dnX) (b : Nat) := dnD w x b (fun _ => True) cX13_pour RX13 5 rmX13_pour "pour" eI
set_option maxHeartbeats 4000000 in
set_option maxRecDepth 100000 in
theorem mX13_pour (w : dnWd) (x : dnX) (b : Nat) (r0 : Option Nat) (p1 : Int32) (p2 : Int32) (p3 : Int32) (p4 : Int32) : dnMt w x b yX13_pour cX13_pour 5 (some .int) rmX13_pour eI [dnV b r0, .int p1, .int p2, .int p3, .int p4] (fX13_pour r0 p1 p2 p3 p4) := by
  have hlv : lv_args 0 [dnV b r0, .int p1, .int p2, .int p3, .int p4] = [(0, dnV b r0), (1, .int p1), (2, .int p2), (3, .int p3), (4, .int p4)] := by cases r0 <;> rfl
  refine dn_mt (by decide +kernel) roI (by cases r0 <;> exact (Nat.le_of_ble_eq_true rfl)) ?_
  rw [hlv]
  refine dn_top ?_
  show jX13_pour w x b 0 0 0 _ [] (dnB _ dnP)
  unfold fX13_pour
  refine dn_aload_n (pc := 0) r0 0 dX13_pour_0 rfl ?_
  refine dn_aload_n (pc := 1) r0 0 dX13_pour_1 rfl ?_
  refine dn_iload_n (pc := 2) 1 dX13_pour_2 rfl ?_
  refine dn_iload_n (pc := 3) 2 dX13_pour_3 rfl ?_
  refine dn_iload_n (pc := 4) 3 dX13_pour_4 rfl ?_
  refine dn_iload (pc := 5) 4 dX13_pour_5 rfl ?_
  refine dn_callV0I (pc := 7) [.int p1, .int p2, .int p3, .int p4] r0 kRX13_291 (mX13_pourDeed w x b r0 p1 p2 p3 p4) rfl rfl (Nat.le_of_ble_eq_true rfl) ⟨(Nat.le_of_ble_eq_true rfl), (Nat.le_of_ble_eq_true rfl)⟩ ⟨rfl, rfl, (Nat.le_of_ble_eq_true rfl), (Nat.le_of_ble_eq_true rfl)⟩ dX13_pour_7 (fun v1 => ?_)
  refine dn_callV0I (pc := 10) [.int v1] r0 kRX13_137 (mX13_said w x b r0 v1) rfl rfl (Nat.le_of_ble_eq_true rfl) ⟨(Nat.le_of_ble_eq_true rfl), (Nat.le_of_ble_eq_true rfl)⟩ ⟨rfl, rfl, (Nat.le_of_ble_eq_true rfl), (Nat.le_of_ble_eq_true rfl)⟩ dX13_pour_10 (fun v2 => ?_)
  exact dn_ret (Nat.le_of_ble_eq_true rfl) (Nat.le_of_ble_eq_true rfl) rfl dX13_pour_13
abbrev rmX13_product : Room := { frames := 3, cells := 0, slots := 0, locals := 67 }
def fX13_product_j76 (l0 : Option Nat) (l3 : Int32) (l4 : Int32) (l7 : Int32) (l8 : Int32) (s0 : Int64) (s1 : Int64) : dnM ((Int64 × Int32) ⊕ (Int64)) :=
  dnP (.inl ((s0 + s1), (l8 + 1)))
def fX13_product_b14 (c0 : Option Nat) (c3 : Int32) (c4 : Int32) (c7 : Int32) (s14 : Int64 × Int32) : dnM ((Int64 × Int32) ⊕ (Int64)) :=
  dnB (dnGR c0 11 7) fun v2 =>
  dnB (dnAI v2 100 c7) fun v3 =>
  if v3 ≤ s14.2 then
  (dnP (.inr s14.1))
  else
  (dnB (dnCv c0 11 (fX13_hasCell c0 c3 s14.2 c4)) fun v4 =>
  if v4 = true then
  (dnB (dnGR c0 11 10) fun v5 =>
  dnB (dnAL v5 102 ((12 * c7) + s14.2)) fun v6 =>
  dnB (dnGR c0 11 10) fun v7 =>
  dnB (dnCv c0 11 (fX13_held c0 c3 s14.2)) fun v8 =>
  dnB (dnAL v7 102 ((12 * v8) + c4)) fun v9 =>
  fX13_product_j76 c0 c3 c4 c7 s14.2 s14.1 (v6 * v9))
  else
  (fX13_product_j76 c0 c3 c4 c7 s14.2 s14.1 0))
def fX13_product (r0 : Option Nat) (p1 : Int32) (p2 : Int32) (p3 : Int32) (p4 : Int32) : dnM Int64 :=
  dnB (dnCv r0 11 (fX13_held r0 p1 p2)) fun v1 =>
  dnB (dnIt 1000 (fX13_product_b14 r0 p3 p4 v1) (0, 0)) fun q14 =>
  dnP q14
abbrev jX13_product (w : dnWd) (x : dnX) (b : Nat) := dnD w x b (fun _ => True) cX13_product RX13 9 rmX13_product "product" eL
set_option maxHeartbeats 4000000 in
set_option maxRecDepth 100000 in
theorem mX13_product (w : dnWd) (x : dnX) (b : Nat) (r0 : Option Nat) (p1 : Int32) (p2 : Int32) (p3 : Int32) (p4 : Int32) : dnMt w x b yX13_product cX13_product 9 (some .long) rmX13_product eL [dnV b r0, .int p1, .int p2, .int p3, .int p4] (fX13_product r0 p1 p2 p3 p4) := by
  have hlv : lv_args 0 [dnV b r0, .int p1, .int p2, .int p3, .int p4] = [(0, dnV b r0), (1, .int p1), (2, .int p2), (3, .int p3), (4, .int p4)] := by cases r0 <;> rfl
  refine dn_mt (by decide +kernel) roL (by cases r0 <;> exact (Nat.le_of_ble_eq_true rfl)) ?_
  rw [hlv]
  refine dn_top ?_
  show jX13_product w x b 0 0 0 _ [] (dnB _ dnP)
  unfold fX13_product
  refine dn_lconst (pc := 0) (v := 0) dX13_product_0 rfl ?_
  refine dn_lstore (pc := 1) dX13_product_1 (Nat.le_of_ble_eq_true rfl) (dnKp_nb 4 rfl rfl rfl (dnKp_of (lv2 := [(0, dnV b r0), (1, .int p1), (2, .int p2), (3, .int p3)]) [0, 1, 2, 3] rfl rfl)) ?_
  refine dn_aload_n (pc := 3) r0 2 dX13_product_3 rfl ?_
  refine dn_iload_n (pc := 4) 3 dX13_product_4 rfl ?_
  refine dn_iload_n (pc := 5) 4 dX13_product_5 rfl ?_
  refine dn_callV0I (pc := 6) [.int p1, .int p2] r0 kRX13_128 (mX13_held w x b r0 p1 p2) rfl rfl (Nat.le_of_ble_eq_true rfl) ⟨(Nat.le_of_ble_eq_true rfl), (Nat.le_of_ble_eq_true rfl)⟩ ⟨rfl, rfl, (Nat.le_of_ble_eq_true rfl), (Nat.le_of_ble_eq_true rfl)⟩ dX13_product_6 (fun v1 => ?_)
  refine dn_istore (pc := 9) dX13_product_9 (Nat.le_of_ble_eq_true rfl) (dnKp_of (lv2 := [(5, .long 0), (4, .int p4), (0, dnV b r0), (3, .int p3)]) [0, 1, 2, 5] rfl rfl) ?_
  refine dn_iconst (pc := 11) (v := 0) dX13_product_11 rfl ?_
  refine dn_istore (pc := 12) dX13_product_12 (Nat.le_of_ble_eq_true rfl) (dnKp_nb 0 rfl rfl rfl (dnKp_of (lv2 := [(5, .long 0), (4, .int p4), (0, dnV b r0), (3, .int p3)]) [1, 2, 3, 4] rfl rfl)) ?_
  refine dn_assoc ?_
  refine dn_lv [4, 5, 3, 2, 1, 0] (lv2 := (fun s => [(0, dnV b r0), (3, .int p3), (4, .int p4), (5, .long s.1), (7, .int v1), (8, .int s.2)]) (0, 0)) rfl ?_
  refine dn_loopE (pc := 14) (body := fX13_product_b14 r0 p3 p4 v1) 85 (fun s => [(0, dnV b r0), (3, .int p3), (4, .int p4), (5, .long s.1), (7, .int v1), (8, .int s.2)]) (fun q => [(5, .long q)]) (fun s14 K14 E14 hK14 hE14 => ?_) (fun q14 => ?_) 1000 (0, 0)
  · unfold fX13_product_b14
    have hj76 : ∀ (l8 : Int32) (s0 : Int64) (s1 : Int64), jX13_product w x b 76 0 0 [(0, dnV b r0), (3, .int p3), (4, .int p4), (7, .int v1), (8, .int l8)] [.long s1, .long s0] (dnB (fX13_product_j76 r0 p3 p4 v1 l8 s0 s1) (dnKo K14 E14)) := by
      intro l8 s0 s1
      unfold fX13_product_j76
      refine dn_ladd (pc := 76) dX13_product_76 ?_
      refine dn_lstore (pc := 77) dX13_product_77 (Nat.le_of_ble_eq_true rfl) (dnKp_nb 2 rfl rfl rfl (dnKp_of (lv2 := [(0, dnV b r0), (3, .int p3), (7, .int v1), (8, .int l8)]) [0, 1, 3, 4] rfl rfl)) ?_
      refine dn_iinc (pc := 79) (l8 + 1) 5 dX13_product_79 rfl rfl (Nat.le_of_ble_eq_true rfl) (dnKp_nb 4 rfl rfl rfl (dnKp_of (lv2 := [(5, .long (s0 + s1)), (4, .int p4), (0, dnV b r0), (3, .int p3)]) [0, 1, 2, 3] rfl rfl)) ?_
      refine dn_goto (pc := 82) 14 dX13_product_82 rfl ?_
      refine dn_leaf ?_
      exact dn_lv [4, 5, 3, 2, 1, 0] rfl (hK14 ((s0 + s1), (l8 + 1)))
    refine dn_iload (pc := 14) 5 dX13_product_14 rfl ?_
    refine dn_aload_n (pc := 16) r0 0 dX13_product_16 rfl ?_
    refine dn_getR (pc := 17) r0 lRX13_26 dX13_product_17 (fun v2 => ?_)
    refine dn_iload (pc := 20) 4 dX13_product_20 rfl ?_
    refine dn_iald (pc := 22) v2 dX13_product_22 (fun v3 => ?_)
    refine dn_icmp_ge (pc := 23) 85 dX13_product_23 rfl (fun _ => ?_) (fun _ => ?_)
    · refine dn_leaf ?_
      exact dn_lv [3] rfl (hE14 s14.1)
    · refine dn_lload (pc := 26) 3 dX13_product_26 rfl ?_
      refine dn_aload_n (pc := 28) r0 0 dX13_product_28 rfl ?_
      refine dn_iload_n (pc := 29) 1 dX13_product_29 rfl ?_
      refine dn_iload (pc := 30) 5 dX13_product_30 rfl ?_
      refine dn_iload (pc := 32) 2 dX13_product_32 rfl ?_
      refine dn_callV0Z (pc := 34) [.int p3, .int s14.2, .int p4] r0 kRX13_348 (mX13_hasCell w x b r0 p3 s14.2 p4) rfl rfl (Nat.le_of_ble_eq_true rfl) ⟨(Nat.le_of_ble_eq_true rfl), (Nat.le_of_ble_eq_true rfl)⟩ ⟨rfl, rfl, (Nat.le_of_ble_eq_true rfl), (Nat.le_of_ble_eq_true rfl)⟩ dX13_product_34 (fun v4 => ?_)
      refine dn_ifz_eq (pc := 37) 75 dX13_product_37 rfl (fun _ => ?_) (fun _ => ?_)
      · refine dn_aload_n (pc := 40) r0 0 dX13_product_40 rfl ?_
        refine dn_getR (pc := 41) r0 lRX13_35 dX13_product_41 (fun v5 => ?_)
        refine dn_bipush (pc := 44) (v := 12) dX13_product_44 rfl ?_
        refine dn_iload (pc := 46) 4 dX13_product_46 rfl ?_
        refine dn_imul (pc := 48) dX13_product_48 ?_
        refine dn_iload (pc := 49) 5 dX13_product_49 rfl ?_
        refine dn_iadd (pc := 51) dX13_product_51 ?_
        refine dn_lald (pc := 52) v5 dX13_product_52 (fun v6 => ?_)
        refine dn_aload_n (pc := 53) r0 0 dX13_product_53 rfl ?_
        refine dn_getR (pc := 54) r0 lRX13_35 dX13_product_54 (fun v7 => ?_)
        refine dn_bipush (pc := 57) (v := 12) dX13_product_57 rfl ?_
        refine dn_aload_n (pc := 59) r0 0 dX13_product_59 rfl ?_
        refine dn_iload_n (pc := 60) 1 dX13_product_60 rfl ?_
        refine dn_iload (pc := 61) 5 dX13_product_61 rfl ?_
        refine dn_callV0I (pc := 63) [.int p3, .int s14.2] r0 kRX13_128 (mX13_held w x b r0 p3 s14.2) rfl rfl (Nat.le_of_ble_eq_true rfl) ⟨(Nat.le_of_ble_eq_true rfl), (Nat.le_of_ble_eq_true rfl)⟩ ⟨rfl, rfl, (Nat.le_of_ble_eq_true rfl), (Nat.le_of_ble_eq_true rfl)⟩ dX13_product_63 (fun v8 => ?_)
        refine dn_imul (pc := 66) dX13_product_66 ?_
        refine dn_iload (pc := 67) 2 dX13_product_67 rfl ?_
        refine dn_iadd (pc := 69) dX13_product_69 ?_
        refine dn_lald (pc := 70) v7 dX13_product_70 (fun v9 => ?_)
        refine dn_lmul (pc := 71) dX13_product_71 ?_
        refine dn_goto (pc := 72) 76 dX13_product_72 rfl ?_
        exact dn_lv [0, 1, 2, 4, 5] rfl (hj76 s14.2 s14.1 (v6 * v9))
      · refine dn_lconst (pc := 75) (v := 0) dX13_product_75 rfl ?_
        exact dn_lv [0, 1, 2, 4, 5] rfl (hj76 s14.2 s14.1 0)
  · refine dn_lload (pc := 85) 0 dX13_product_85 rfl ?_
    exact dn_ret (Nat.le_of_ble_eq_true rfl) (Nat.le_of_ble_eq_true rfl) rfl dX13_product_87
abbrev rmX13_putDeed : Room := { frames := 4, cells := 0, slots := 0, locals := 92 }
def fX13_putDeed (r0 : Option Nat) (p1 : Int32) (p2 : Int32) (p3 : Int32) (p4 : Int32) (p5 : Int64) : dnM Int32 :=
  dnB (fX13_isGrid p1) fun v1 =>
  if v1 = true then
  (dnB (fX13_isSort p4) fun v2 =>
  if v2 = true then
  (dnB (dnCv r0 11 (fX13_cellFault r0 p1 p2 p3)) fun v3 =>
  if v3 = 0 then
  (dnB (dnCv r0 11 (fX13_makes r0 p4 p5)) fun _ =>
  dnB (dnCv r0 11 (fX13_held r0 p1 p2)) fun v5 =>
  dnB (dnCv r0 11 (fX13_puts r0 v5 p3)) fun v6 =>
  if v6 = true then
  (dnP 1)
  else
  (dnP (-7)))
  else
  (dnP v3))
  else
  (dnP (-1)))
  else
  (dnP (-1))
abbrev jX13_putDeed (w : dnWd) (x : dnX) (b : Nat) := dnD w x b (fun _ => True) cX13_putDeed RX13 8 rmX13_putDeed "putDeed" eI
set_option maxHeartbeats 4000000 in
set_option maxRecDepth 100000 in
theorem mX13_putDeed (w : dnWd) (x : dnX) (b : Nat) (r0 : Option Nat) (p1 : Int32) (p2 : Int32) (p3 : Int32) (p4 : Int32) (p5 : Int64) : dnMt w x b yX13_putDeed cX13_putDeed 8 (some .int) rmX13_putDeed eI [dnV b r0, .int p1, .int p2, .int p3, .int p4, .long p5] (fX13_putDeed r0 p1 p2 p3 p4 p5) := by
  have hlv : lv_args 0 [dnV b r0, .int p1, .int p2, .int p3, .int p4, .long p5] = [(0, dnV b r0), (1, .int p1), (2, .int p2), (3, .int p3), (4, .int p4), (5, .long p5)] := by cases r0 <;> rfl
  refine dn_mt (by decide +kernel) roI (by cases r0 <;> exact (Nat.le_of_ble_eq_true rfl)) ?_
  rw [hlv]
  refine dn_top ?_
  show jX13_putDeed w x b 0 0 0 _ [] (dnB _ dnP)
  unfold fX13_putDeed
  refine dn_iload_n (pc := 0) 1 dX13_putDeed_0 rfl ?_
  refine dn_callS0Z (pc := 1) [.int p1]  kRX13_134 (mX13_isGrid w x b p1) rfl rfl (Nat.le_of_ble_eq_true rfl) ⟨(Nat.le_of_ble_eq_true rfl), (Nat.le_of_ble_eq_true rfl)⟩ ⟨rfl, rfl, (Nat.le_of_ble_eq_true rfl), (Nat.le_of_ble_eq_true rfl)⟩ dX13_putDeed_1 (fun v1 => ?_)
  refine dn_ifz_eq (pc := 4) 15 dX13_putDeed_4 rfl (fun _ => ?_) (fun _ => ?_)
  · refine dn_iload (pc := 7) 4 dX13_putDeed_7 rfl ?_
    refine dn_callS0Z (pc := 9) [.int p4]  kRX13_261 (mX13_isSort w x b p4) rfl rfl (Nat.le_of_ble_eq_true rfl) ⟨(Nat.le_of_ble_eq_true rfl), (Nat.le_of_ble_eq_true rfl)⟩ ⟨rfl, rfl, (Nat.le_of_ble_eq_true rfl), (Nat.le_of_ble_eq_true rfl)⟩ dX13_putDeed_9 (fun v2 => ?_)
    refine dn_ifz_ne (pc := 12) 17 dX13_putDeed_12 rfl (fun _ => ?_) (fun _ => ?_)
    · refine dn_aload_n (pc := 17) r0 0 dX13_putDeed_17 rfl ?_
      refine dn_iload_n (pc := 18) 1 dX13_putDeed_18 rfl ?_
      refine dn_iload_n (pc := 19) 2 dX13_putDeed_19 rfl ?_
      refine dn_iload_n (pc := 20) 3 dX13_putDeed_20 rfl ?_
      refine dn_callV0I (pc := 21) [.int p1, .int p2, .int p3] r0 kRX13_230 (mX13_cellFault w x b r0 p1 p2 p3) rfl rfl (Nat.le_of_ble_eq_true rfl) ⟨(Nat.le_of_ble_eq_true rfl), (Nat.le_of_ble_eq_true rfl)⟩ ⟨rfl, rfl, (Nat.le_of_ble_eq_true rfl), (Nat.le_of_ble_eq_true rfl)⟩ dX13_putDeed_21 (fun v3 => ?_)
      refine dn_istore (pc := 24) dX13_putDeed_24 (Nat.le_of_ble_eq_true rfl) (dnKp_of (lv2 := [(0, dnV b r0), (1, .int p1), (2, .int p2), (3, .int p3), (4, .int p4), (5, .long p5)]) [0, 1, 2, 3, 4, 5] rfl rfl) ?_
      refine dn_iload (pc := 26) 0 dX13_putDeed_26 rfl ?_
      refine dn_if_eq (pc := 28) 34 dX13_putDeed_28 rfl (fun _ => ?_) (fun _ => ?_)
      · refine dn_aload_n (pc := 34) r0 1 dX13_putDeed_34 rfl ?_
        refine dn_iload (pc := 35) 5 dX13_putDeed_35 rfl ?_
        refine dn_lload (pc := 37) 6 dX13_putDeed_37 rfl ?_
        refine dn_callV0U (pc := 39) [.int p4, .long p5] r0 kRX13_250 (mX13_makes w x b r0 p4 p5) rfl rfl (Nat.le_of_ble_eq_true rfl) ⟨(Nat.le_of_ble_eq_true rfl), (Nat.le_of_ble_eq_true rfl)⟩ ⟨rfl, rfl, (Nat.le_of_ble_eq_true rfl), (Nat.le_of_ble_eq_true rfl)⟩ dX13_putDeed_39 (fun _ => ?_)
        refine dn_aload_n (pc := 42) r0 1 dX13_putDeed_42 rfl ?_
        refine dn_aload_n (pc := 43) r0 1 dX13_putDeed_43 rfl ?_
        refine dn_iload_n (pc := 44) 2 dX13_putDeed_44 rfl ?_
        refine dn_iload_n (pc := 45) 3 dX13_putDeed_45 rfl ?_
        refine dn_callV0I (pc := 46) [.int p1, .int p2] r0 kRX13_128 (mX13_held w x b r0 p1 p2) rfl rfl (Nat.le_of_ble_eq_true rfl) ⟨(Nat.le_of_ble_eq_true rfl), (Nat.le_of_ble_eq_true rfl)⟩ ⟨rfl, rfl, (Nat.le_of_ble_eq_true rfl), (Nat.le_of_ble_eq_true rfl)⟩ dX13_putDeed_46 (fun v5 => ?_)
        refine dn_iload_n (pc := 49) 4 dX13_putDeed_49 rfl ?_
        refine dn_callV0Z (pc := 50) [.int v5, .int p3] r0 kRX13_254 (mX13_puts w x b r0 v5 p3) rfl rfl (Nat.le_of_ble_eq_true rfl) ⟨(Nat.le_of_ble_eq_true rfl), (Nat.le_of_ble_eq_true rfl)⟩ ⟨rfl, rfl, (Nat.le_of_ble_eq_true rfl), (Nat.le_of_ble_eq_true rfl)⟩ dX13_putDeed_50 (fun v6 => ?_)
        refine dn_ifz_eq (pc := 53) 60 dX13_putDeed_53 rfl (fun _ => ?_) (fun _ => ?_)
        · refine dn_iconst (pc := 56) (v := 1) dX13_putDeed_56 rfl ?_
          refine dn_goto (pc := 57) 62 dX13_putDeed_57 rfl ?_
          exact dn_ret (Nat.le_of_ble_eq_true rfl) (Nat.le_of_ble_eq_true rfl) rfl dX13_putDeed_62
        · refine dn_bipush (pc := 60) (v := -7) dX13_putDeed_60 rfl ?_
          exact dn_ret (Nat.le_of_ble_eq_true rfl) (Nat.le_of_ble_eq_true rfl) rfl dX13_putDeed_62
      · refine dn_iload (pc := 31) 0 dX13_putDeed_31 rfl ?_
        exact dn_ret (Nat.le_of_ble_eq_true rfl) (Nat.le_of_ble_eq_true rfl) rfl dX13_putDeed_33
    · refine dn_iconst (pc := 15) (v := -1) dX13_putDeed_15 rfl ?_
      exact dn_ret (Nat.le_of_ble_eq_true rfl) (Nat.le_of_ble_eq_true rfl) rfl dX13_putDeed_16
  · refine dn_iconst (pc := 15) (v := -1) dX13_putDeed_15 rfl ?_
    exact dn_ret (Nat.le_of_ble_eq_true rfl) (Nat.le_of_ble_eq_true rfl) rfl dX13_putDeed_16
abbrev rmX13_put : Room := { frames := 5, cells := 0, slots := 0, locals := 119 }
def fX13_put (r0 : Option Nat) (p1 : Int32) (p2 : Int32) (p3 : Int32) (p4 : Int32) (p5 : Int64) : dnM Int32 :=
  dnB (dnCv r0 11 (fX13_putDeed r0 p1 p2 p3 p4 p5)) fun v1 =>
  dnB (dnCv r0 11 (fX13_said r0 v1)) fun v2 =>
  dnP v2
abbrev jX13_put (w : dnWd) (x : dnX) (b : Nat) := dnD w x b (fun _ => True) cX13_put RX13 7 rmX13_put "put" eI
set_option maxHeartbeats 4000000 in
set_option maxRecDepth 100000 in
theorem mX13_put (w : dnWd) (x : dnX) (b : Nat) (r0 : Option Nat) (p1 : Int32) (p2 : Int32) (p3 : Int32) (p4 : Int32) (p5 : Int64) : dnMt w x b yX13_put cX13_put 7 (some .int) rmX13_put eI [dnV b r0, .int p1, .int p2, .int p3, .int p4, .long p5] (fX13_put r0 p1 p2 p3 p4 p5) := by
  have hlv : lv_args 0 [dnV b r0, .int p1, .int p2, .int p3, .int p4, .long p5] = [(0, dnV b r0), (1, .int p1), (2, .int p2), (3, .int p3), (4, .int p4), (5, .long p5)] := by cases r0 <;> rfl
  refine dn_mt (by decide +kernel) roI (by cases r0 <;> exact (Nat.le_of_ble_eq_true rfl)) ?_
  rw [hlv]
  refine dn_top ?_
  show jX13_put w x b 0 0 0 _ [] (dnB _ dnP)
  unfold fX13_put
  refine dn_aload_n (pc := 0) r0 0 dX13_put_0 rfl ?_
  refine dn_aload_n (pc := 1) r0 0 dX13_put_1 rfl ?_
  refine dn_iload_n (pc := 2) 1 dX13_put_2 rfl ?_
  refine dn_iload_n (pc := 3) 2 dX13_put_3 rfl ?_
  refine dn_iload_n (pc := 4) 3 dX13_put_4 rfl ?_
  refine dn_iload (pc := 5) 4 dX13_put_5 rfl ?_
  refine dn_lload (pc := 7) 5 dX13_put_7 rfl ?_
  refine dn_callV0I (pc := 9) [.int p1, .int p2, .int p3, .int p4, .long p5] r0 kRX13_264 (mX13_putDeed w x b r0 p1 p2 p3 p4 p5) rfl rfl (Nat.le_of_ble_eq_true rfl) ⟨(Nat.le_of_ble_eq_true rfl), (Nat.le_of_ble_eq_true rfl)⟩ ⟨rfl, rfl, (Nat.le_of_ble_eq_true rfl), (Nat.le_of_ble_eq_true rfl)⟩ dX13_put_9 (fun v1 => ?_)
  refine dn_callV0I (pc := 12) [.int v1] r0 kRX13_137 (mX13_said w x b r0 v1) rfl rfl (Nat.le_of_ble_eq_true rfl) ⟨(Nat.le_of_ble_eq_true rfl), (Nat.le_of_ble_eq_true rfl)⟩ ⟨rfl, rfl, (Nat.le_of_ble_eq_true rfl), (Nat.le_of_ble_eq_true rfl)⟩ dX13_put_12 (fun v2 => ?_)
  exact dn_ret (Nat.le_of_ble_eq_true rfl) (Nat.le_of_ble_eq_true rfl) rfl dX13_put_15
abbrev rmX13_readAnswer : Room := { frames := 4, cells := 0, slots := 0, locals := 92 }
def fX13_readAnswer_j86 (l0 : Option Nat) : dnM Int32 :=
  dnB (dnCv l0 11 (fX13_toldOf l0)) fun v1 =>
  dnB (dnGI l0 11 12) fun v2 =>
  dnB (dnCv l0 11 (fX13_tells l0 v1 v2)) fun v3 =>
  dnP v3
def fX13_readAnswer_j66 (l0 : Option Nat) (l3 : Int32) (l4 : Int32) (l6 : Int32) : dnM Int32 :=
  dnB (dnCv l0 11 (fX13_loads l0 l6 l3)) fun _ =>
  if 8 ≤ l4 then
  (fX13_readAnswer_j86 l0)
  else
  (dnB (dnCv l0 11 (fX13_widens l0 l4)) fun _ =>
  fX13_readAnswer_j86 l0)
def fX13_readAnswer (r0 : Option Nat) (p1 : Int32) (p2 : Int32) (p3 : Int32) (p4 : Int32) : dnM Int32 :=
  dnB (fX13_isGrid p1) fun v6 =>
  if v6 = true then
  (dnB (fX13_in p4 0 8) fun v7 =>
  if v7 = true then
  (dnB (dnCv r0 11 (fX13_cellFault r0 p1 p2 p3)) fun v8 =>
  if v8 = 0 then
  (dnB (dnCv r0 11 (fX13_held r0 p1 p2)) fun v9 =>
  if 8 ≤ p4 then
  (fX13_readAnswer_j66 r0 p3 p4 v9)
  else
  (dnB (dnCv r0 11 (fX13_isReadable r0 v9 p4)) fun v10 =>
  if v10 = true then
  (fX13_readAnswer_j66 r0 p3 p4 v9)
  else
  (dnP (-7))))
  else
  (dnP v8))
  else
  (dnP (-1)))
  else
  (dnP (-1))
abbrev jX13_readAnswer (w : dnWd) (x : dnX) (b : Nat) := dnD w x b (fun _ => True) cX13_readAnswer RX13 7 rmX13_readAnswer "readAnswer" eI
set_option maxHeartbeats 4000000 in
set_option maxRecDepth 100000 in
theorem mX13_readAnswer (w : dnWd) (x : dnX) (b : Nat) (r0 : Option Nat) (p1 : Int32) (p2 : Int32) (p3 : Int32) (p4 : Int32) : dnMt w x b yX13_readAnswer cX13_readAnswer 7 (some .int) rmX13_readAnswer eI [dnV b r0, .int p1, .int p2, .int p3, .int p4] (fX13_readAnswer r0 p1 p2 p3 p4) := by
  have hlv : lv_args 0 [dnV b r0, .int p1, .int p2, .int p3, .int p4] = [(0, dnV b r0), (1, .int p1), (2, .int p2), (3, .int p3), (4, .int p4)] := by cases r0 <;> rfl
  refine dn_mt (by decide +kernel) roI (by cases r0 <;> exact (Nat.le_of_ble_eq_true rfl)) ?_
  rw [hlv]
  refine dn_top ?_
  show jX13_readAnswer w x b 0 0 0 _ [] (dnB _ dnP)
  unfold fX13_readAnswer
  have hj86 : ∀ (l0 : Option Nat), jX13_readAnswer w x b 86 0 0 [(0, dnV b l0)] [] (dnB (fX13_readAnswer_j86 l0) dnP) := by
    intro l0
    unfold fX13_readAnswer_j86
    refine dn_aload_n (pc := 86) l0 0 dX13_readAnswer_86 rfl ?_
    refine dn_aload_n (pc := 87) l0 0 dX13_readAnswer_87 rfl ?_
    refine dn_callV0L (pc := 88) [] l0 kRX13_239 (mX13_toldOf w x b l0) rfl rfl (Nat.le_of_ble_eq_true rfl) ⟨(Nat.le_of_ble_eq_true rfl), (Nat.le_of_ble_eq_true rfl)⟩ ⟨rfl, rfl, (Nat.le_of_ble_eq_true rfl), (Nat.le_of_ble_eq_true rfl)⟩ dX13_readAnswer_88 (fun v1 => ?_)
    refine dn_aload_n (pc := 91) l0 0 dX13_readAnswer_91 rfl ?_
    refine dn_getI (pc := 92) l0 lRX13_190 dX13_readAnswer_92 (fun v2 => ?_)
    refine dn_callV0I (pc := 95) [.long v1, .int v2] l0 kRX13_243 (mX13_tells w x b l0 v1 v2) rfl rfl (Nat.le_of_ble_eq_true rfl) ⟨(Nat.le_of_ble_eq_true rfl), (Nat.le_of_ble_eq_true rfl)⟩ ⟨rfl, rfl, (Nat.le_of_ble_eq_true rfl), (Nat.le_of_ble_eq_true rfl)⟩ dX13_readAnswer_95 (fun v3 => ?_)
    exact dn_ret (Nat.le_of_ble_eq_true rfl) (Nat.le_of_ble_eq_true rfl) rfl dX13_readAnswer_98
  have hj66 : ∀ (l0 : Option Nat) (l3 : Int32) (l4 : Int32) (l6 : Int32), jX13_readAnswer w x b 66 0 0 [(0, dnV b l0), (3, .int l3), (4, .int l4), (6, .int l6)] [] (dnB (fX13_readAnswer_j66 l0 l3 l4 l6) dnP) := by
    intro l0 l3 l4 l6
    unfold fX13_readAnswer_j66
    refine dn_aload_n (pc := 66) l0 0 dX13_readAnswer_66 rfl ?_
    refine dn_iload (pc := 67) 3 dX13_readAnswer_67 rfl ?_
    refine dn_iload_n (pc := 69) 1 dX13_readAnswer_69 rfl ?_
    refine dn_callV0U (pc := 70) [.int l6, .int l3] l0 kRX13_236 (mX13_loads w x b l0 l6 l3) rfl rfl (Nat.le_of_ble_eq_true rfl) ⟨(Nat.le_of_ble_eq_true rfl), (Nat.le_of_ble_eq_true rfl)⟩ ⟨rfl, rfl, (Nat.le_of_ble_eq_true rfl), (Nat.le_of_ble_eq_true rfl)⟩ dX13_readAnswer_70 (fun _ => ?_)
    refine dn_iload (pc := 73) 2 dX13_readAnswer_73 rfl ?_
    refine dn_bipush (pc := 75) (v := 8) dX13_readAnswer_75 rfl ?_
    refine dn_icmp_ge (pc := 77) 86 dX13_readAnswer_77 rfl (fun _ => ?_) (fun _ => ?_)
    · exact dn_lv [0] rfl (hj86 l0)
    · refine dn_aload_n (pc := 80) l0 0 dX13_readAnswer_80 rfl ?_
      refine dn_iload (pc := 81) 2 dX13_readAnswer_81 rfl ?_
      refine dn_callV0U (pc := 83) [.int l4] l0 kRX13_212 (mX13_widens w x b l0 l4) rfl rfl (Nat.le_of_ble_eq_true rfl) ⟨(Nat.le_of_ble_eq_true rfl), (Nat.le_of_ble_eq_true rfl)⟩ ⟨rfl, rfl, (Nat.le_of_ble_eq_true rfl), (Nat.le_of_ble_eq_true rfl)⟩ dX13_readAnswer_83 (fun _ => ?_)
      exact dn_lv [0] rfl (hj86 l0)
  refine dn_iload_n (pc := 0) 1 dX13_readAnswer_0 rfl ?_
  refine dn_callS0Z (pc := 1) [.int p1]  kRX13_134 (mX13_isGrid w x b p1) rfl rfl (Nat.le_of_ble_eq_true rfl) ⟨(Nat.le_of_ble_eq_true rfl), (Nat.le_of_ble_eq_true rfl)⟩ ⟨rfl, rfl, (Nat.le_of_ble_eq_true rfl), (Nat.le_of_ble_eq_true rfl)⟩ dX13_readAnswer_1 (fun v6 => ?_)
  refine dn_ifz_eq (pc := 4) 18 dX13_readAnswer_4 rfl (fun _ => ?_) (fun _ => ?_)
  · refine dn_iload (pc := 7) 4 dX13_readAnswer_7 rfl ?_
    refine dn_iconst (pc := 9) (v := 0) dX13_readAnswer_9 rfl ?_
    refine dn_bipush (pc := 10) (v := 8) dX13_readAnswer_10 rfl ?_
    refine dn_callS0Z (pc := 12) [.int p4, .int 0, .int 8]  kRX13_109 (mX13_in w x b p4 0 8) rfl rfl (Nat.le_of_ble_eq_true rfl) ⟨(Nat.le_of_ble_eq_true rfl), (Nat.le_of_ble_eq_true rfl)⟩ ⟨rfl, rfl, (Nat.le_of_ble_eq_true rfl), (Nat.le_of_ble_eq_true rfl)⟩ dX13_readAnswer_12 (fun v7 => ?_)
    refine dn_ifz_ne (pc := 15) 20 dX13_readAnswer_15 rfl (fun _ => ?_) (fun _ => ?_)
    · refine dn_aload_n (pc := 20) r0 0 dX13_readAnswer_20 rfl ?_
      refine dn_iload_n (pc := 21) 1 dX13_readAnswer_21 rfl ?_
      refine dn_iload_n (pc := 22) 2 dX13_readAnswer_22 rfl ?_
      refine dn_iload_n (pc := 23) 3 dX13_readAnswer_23 rfl ?_
      refine dn_callV0I (pc := 24) [.int p1, .int p2, .int p3] r0 kRX13_230 (mX13_cellFault w x b r0 p1 p2 p3) rfl rfl (Nat.le_of_ble_eq_true rfl) ⟨(Nat.le_of_ble_eq_true rfl), (Nat.le_of_ble_eq_true rfl)⟩ ⟨rfl, rfl, (Nat.le_of_ble_eq_true rfl), (Nat.le_of_ble_eq_true rfl)⟩ dX13_readAnswer_24 (fun v8 => ?_)
      refine dn_istore (pc := 27) dX13_readAnswer_27 (Nat.le_of_ble_eq_true rfl) (dnKp_nb 4 rfl rfl rfl (dnKp_of (lv2 := [(0, dnV b r0), (1, .int p1), (2, .int p2), (3, .int p3)]) [0, 1, 2, 3] rfl rfl)) ?_
      refine dn_iload (pc := 29) 0 dX13_readAnswer_29 rfl ?_
      refine dn_if_eq (pc := 31) 37 dX13_readAnswer_31 rfl (fun _ => ?_) (fun _ => ?_)
      · refine dn_aload_n (pc := 37) r0 2 dX13_readAnswer_37 rfl ?_
        refine dn_iload_n (pc := 38) 3 dX13_readAnswer_38 rfl ?_
        refine dn_iload_n (pc := 39) 4 dX13_readAnswer_39 rfl ?_
        refine dn_callV0I (pc := 40) [.int p1, .int p2] r0 kRX13_128 (mX13_held w x b r0 p1 p2) rfl rfl (Nat.le_of_ble_eq_true rfl) ⟨(Nat.le_of_ble_eq_true rfl), (Nat.le_of_ble_eq_true rfl)⟩ ⟨rfl, rfl, (Nat.le_of_ble_eq_true rfl), (Nat.le_of_ble_eq_true rfl)⟩ dX13_readAnswer_40 (fun v9 => ?_)
        refine dn_istore (pc := 43) dX13_readAnswer_43 (Nat.le_of_ble_eq_true rfl) (dnKp_of (lv2 := [(4, .int p4), (0, dnV b r0), (3, .int p3)]) [1, 2, 5] rfl rfl) ?_
        refine dn_iload (pc := 45) 1 dX13_readAnswer_45 rfl ?_
        refine dn_bipush (pc := 47) (v := 8) dX13_readAnswer_47 rfl ?_
        refine dn_icmp_ge (pc := 49) 66 dX13_readAnswer_49 rfl (fun _ => ?_) (fun _ => ?_)
        · exact dn_lv [2, 3, 1, 0] rfl (hj66 r0 p3 p4 v9)
        · refine dn_aload_n (pc := 52) r0 2 dX13_readAnswer_52 rfl ?_
          refine dn_iload (pc := 53) 0 dX13_readAnswer_53 rfl ?_
          refine dn_iload (pc := 55) 1 dX13_readAnswer_55 rfl ?_
          refine dn_callV0Z (pc := 57) [.int v9, .int p4] r0 kRX13_233 (mX13_isReadable w x b r0 v9 p4) rfl rfl (Nat.le_of_ble_eq_true rfl) ⟨(Nat.le_of_ble_eq_true rfl), (Nat.le_of_ble_eq_true rfl)⟩ ⟨rfl, rfl, (Nat.le_of_ble_eq_true rfl), (Nat.le_of_ble_eq_true rfl)⟩ dX13_readAnswer_57 (fun v10 => ?_)
          refine dn_ifz_ne (pc := 60) 66 dX13_readAnswer_60 rfl (fun _ => ?_) (fun _ => ?_)
          · exact dn_lv [2, 3, 1, 0] rfl (hj66 r0 p3 p4 v9)
          · refine dn_bipush (pc := 63) (v := -7) dX13_readAnswer_63 rfl ?_
            exact dn_ret (Nat.le_of_ble_eq_true rfl) (Nat.le_of_ble_eq_true rfl) rfl dX13_readAnswer_65
      · refine dn_iload (pc := 34) 0 dX13_readAnswer_34 rfl ?_
        exact dn_ret (Nat.le_of_ble_eq_true rfl) (Nat.le_of_ble_eq_true rfl) rfl dX13_readAnswer_36
    · refine dn_iconst (pc := 18) (v := -1) dX13_readAnswer_18 rfl ?_
      exact dn_ret (Nat.le_of_ble_eq_true rfl) (Nat.le_of_ble_eq_true rfl) rfl dX13_readAnswer_19
  · refine dn_iconst (pc := 18) (v := -1) dX13_readAnswer_18 rfl ?_
    exact dn_ret (Nat.le_of_ble_eq_true rfl) (Nat.le_of_ble_eq_true rfl) rfl dX13_readAnswer_19
abbrev rmX13_read : Room := { frames := 5, cells := 0, slots := 0, locals := 118 }
def fX13_read (r0 : Option Nat) (p1 : Int32) (p2 : Int32) (p3 : Int32) (p4 : Int32) : dnM Int32 :=
  dnB (dnCv r0 11 (fX13_readAnswer r0 p1 p2 p3 p4)) fun v1 =>
  dnB (dnCv r0 11 (fX13_said r0 v1)) fun v2 =>
  dnP v2
abbrev jX13_read (w : dnWd) (x : dnX) (b : Nat) := dnD w x b (fun _ => True) cX13_read RX13 5 rmX13_read "read" eI
set_option maxHeartbeats 4000000 in
set_option maxRecDepth 100000 in
theorem mX13_read (w : dnWd) (x : dnX) (b : Nat) (r0 : Option Nat) (p1 : Int32) (p2 : Int32) (p3 : Int32) (p4 : Int32) : dnMt w x b yX13_read cX13_read 5 (some .int) rmX13_read eI [dnV b r0, .int p1, .int p2, .int p3, .int p4] (fX13_read r0 p1 p2 p3 p4) := by
  have hlv : lv_args 0 [dnV b r0, .int p1, .int p2, .int p3, .int p4] = [(0, dnV b r0), (1, .int p1), (2, .int p2), (3, .int p3), (4, .int p4)] := by cases r0 <;> rfl
  refine dn_mt (by decide +kernel) roI (by cases r0 <;> exact (Nat.le_of_ble_eq_true rfl)) ?_
  rw [hlv]
  refine dn_top ?_
  show jX13_read w x b 0 0 0 _ [] (dnB _ dnP)
  unfold fX13_read
  refine dn_aload_n (pc := 0) r0 0 dX13_read_0 rfl ?_
  refine dn_aload_n (pc := 1) r0 0 dX13_read_1 rfl ?_
  refine dn_iload_n (pc := 2) 1 dX13_read_2 rfl ?_
  refine dn_iload_n (pc := 3) 2 dX13_read_3 rfl ?_
  refine dn_iload_n (pc := 4) 3 dX13_read_4 rfl ?_
  refine dn_iload (pc := 5) 4 dX13_read_5 rfl ?_
  refine dn_callV0I (pc := 7) [.int p1, .int p2, .int p3, .int p4] r0 kRX13_247 (mX13_readAnswer w x b r0 p1 p2 p3 p4) rfl rfl (Nat.le_of_ble_eq_true rfl) ⟨(Nat.le_of_ble_eq_true rfl), (Nat.le_of_ble_eq_true rfl)⟩ ⟨rfl, rfl, (Nat.le_of_ble_eq_true rfl), (Nat.le_of_ble_eq_true rfl)⟩ dX13_read_7 (fun v1 => ?_)
  refine dn_callV0I (pc := 10) [.int v1] r0 kRX13_137 (mX13_said w x b r0 v1) rfl rfl (Nat.le_of_ble_eq_true rfl) ⟨(Nat.le_of_ble_eq_true rfl), (Nat.le_of_ble_eq_true rfl)⟩ ⟨rfl, rfl, (Nat.le_of_ble_eq_true rfl), (Nat.le_of_ble_eq_true rfl)⟩ dX13_read_10 (fun v2 => ?_)
  exact dn_ret (Nat.le_of_ble_eq_true rfl) (Nat.le_of_ble_eq_true rfl) rfl dX13_read_13
abbrev rmX13_refusals : Room := { frames := 1, cells := 0, slots := 0, locals := 22 }
def fX13_refusals_j16 (l0 : Option Nat) (l1 : Int32) : dnM Int32 :=
  dnB (dnGR l0 11 0) fun v1 =>
  dnB (dnAI v1 100 (-l1)) fun v2 =>
  dnP v2
def fX13_refusals (r0 : Option Nat) (p1 : Int32) : dnM Int32 :=
  dnB (fX13_in p1 (-8) (-1)) fun v3 =>
  if v3 = true then
  (fX13_refusals_j16 r0 p1)
  else
  (if ¬ p1 = (-10) then
  (dnP (-1))
  else
  (fX13_refusals_j16 r0 p1))
abbrev jX13_refusals (w : dnWd) (x : dnX) (b : Nat) := dnD w x b (fun _ => True) cX13_refusals RX13 2 rmX13_refusals "refusals" eI
set_option maxHeartbeats 4000000 in
set_option maxRecDepth 100000 in
theorem mX13_refusals (w : dnWd) (x : dnX) (b : Nat) (r0 : Option Nat) (p1 : Int32) : dnMt w x b yX13_refusals cX13_refusals 2 (some .int) rmX13_refusals eI [dnV b r0, .int p1] (fX13_refusals r0 p1) := by
  have hlv : lv_args 0 [dnV b r0, .int p1] = [(0, dnV b r0), (1, .int p1)] := by cases r0 <;> rfl
  refine dn_mt (by decide +kernel) roI (by cases r0 <;> exact (Nat.le_of_ble_eq_true rfl)) ?_
  rw [hlv]
  refine dn_top ?_
  show jX13_refusals w x b 0 0 0 _ [] (dnB _ dnP)
  unfold fX13_refusals
  have hj16 : ∀ (l0 : Option Nat) (l1 : Int32), jX13_refusals w x b 16 0 0 [(0, dnV b l0), (1, .int l1)] [] (dnB (fX13_refusals_j16 l0 l1) dnP) := by
    intro l0 l1
    unfold fX13_refusals_j16
    refine dn_aload_n (pc := 16) l0 0 dX13_refusals_16 rfl ?_
    refine dn_getR (pc := 17) l0 lRX13_7 dX13_refusals_17 (fun v1 => ?_)
    refine dn_iload_n (pc := 20) 1 dX13_refusals_20 rfl ?_
    refine dn_ineg (pc := 21) dX13_refusals_21 ?_
    refine dn_iald (pc := 22) v1 dX13_refusals_22 (fun v2 => ?_)
    refine dn_goto (pc := 23) 27 dX13_refusals_23 rfl ?_
    exact dn_ret (Nat.le_of_ble_eq_true rfl) (Nat.le_of_ble_eq_true rfl) rfl dX13_refusals_27
  refine dn_iload_n (pc := 0) 1 dX13_refusals_0 rfl ?_
  refine dn_bipush (pc := 1) (v := -8) dX13_refusals_1 rfl ?_
  refine dn_iconst (pc := 3) (v := -1) dX13_refusals_3 rfl ?_
  refine dn_callS0Z (pc := 4) [.int p1, .int (-8), .int (-1)]  kRX13_109 (mX13_in w x b p1 (-8) (-1)) rfl rfl (Nat.le_of_ble_eq_true rfl) ⟨(Nat.le_of_ble_eq_true rfl), (Nat.le_of_ble_eq_true rfl)⟩ ⟨rfl, rfl, (Nat.le_of_ble_eq_true rfl), (Nat.le_of_ble_eq_true rfl)⟩ dX13_refusals_4 (fun v3 => ?_)
  refine dn_ifz_ne (pc := 7) 16 dX13_refusals_7 rfl (fun _ => ?_) (fun _ => ?_)
  · exact dn_lv [0, 1] rfl (hj16 r0 p1)
  · refine dn_iload_n (pc := 10) 1 dX13_refusals_10 rfl ?_
    refine dn_bipush (pc := 11) (v := -10) dX13_refusals_11 rfl ?_
    refine dn_icmp_ne (pc := 13) 26 dX13_refusals_13 rfl (fun _ => ?_) (fun _ => ?_)
    · refine dn_iconst (pc := 26) (v := -1) dX13_refusals_26 rfl ?_
      exact dn_ret (Nat.le_of_ble_eq_true rfl) (Nat.le_of_ble_eq_true rfl) rfl dX13_refusals_27
    · exact dn_lv [0, 1] rfl (hj16 r0 p1)
abbrev rmX13_roll : Room := { frames := 4, cells := 0, slots := 0, locals := 95 }
def fX13_roll (r0 : Option Nat) (p1 : Int32) (p2 : Int32) (p3 : Int32) : dnM Int32 :=
  dnB (dnCv r0 11 (fX13_rollDeed r0 p1 p2 p3)) fun v1 =>
  dnB (dnCv r0 11 (fX13_said r0 v1)) fun v2 =>
  dnP v2
abbrev jX13_roll (w : dnWd) (x : dnX) (b : Nat) := dnD w x b (fun _ => True) cX13_roll RX13 4 rmX13_roll "roll" eI
set_option maxHeartbeats 4000000 in
set_option maxRecDepth 100000 in
theorem mX13_roll (w : dnWd) (x : dnX) (b : Nat) (r0 : Option Nat) (p1 : Int32) (p2 : Int32) (p3 : Int32) : dnMt w x b yX13_roll cX13_roll 4 (some .int) rmX13_roll eI [dnV b r0, .int p1, .int p2, .int p3] (fX13_roll r0 p1 p2 p3) := by
  have hlv : lv_args 0 [dnV b r0, .int p1, .int p2, .int p3] = [(0, dnV b r0), (1, .int p1), (2, .int p2), (3, .int p3)] := by cases r0 <;> rfl
  refine dn_mt (by decide +kernel) roI (by cases r0 <;> exact (Nat.le_of_ble_eq_true rfl)) ?_
  rw [hlv]
  refine dn_top ?_
  show jX13_roll w x b 0 0 0 _ [] (dnB _ dnP)
  unfold fX13_roll
  refine dn_aload_n (pc := 0) r0 0 dX13_roll_0 rfl ?_
  refine dn_aload_n (pc := 1) r0 0 dX13_roll_1 rfl ?_
  refine dn_iload_n (pc := 2) 1 dX13_roll_2 rfl ?_
  refine dn_iload_n (pc := 3) 2 dX13_roll_3 rfl ?_
  refine dn_iload_n (pc := 4) 3 dX13_roll_4 rfl ?_
  refine dn_callV0I (pc := 5) [.int p1, .int p2, .int p3] r0 kRX13_309 (mX13_rollDeed w x b r0 p1 p2 p3) rfl rfl (Nat.le_of_ble_eq_true rfl) ⟨(Nat.le_of_ble_eq_true rfl), (Nat.le_of_ble_eq_true rfl)⟩ ⟨rfl, rfl, (Nat.le_of_ble_eq_true rfl), (Nat.le_of_ble_eq_true rfl)⟩ dX13_roll_5 (fun v1 => ?_)
  refine dn_callV0I (pc := 8) [.int v1] r0 kRX13_137 (mX13_said w x b r0 v1) rfl rfl (Nat.le_of_ble_eq_true rfl) ⟨(Nat.le_of_ble_eq_true rfl), (Nat.le_of_ble_eq_true rfl)⟩ ⟨rfl, rfl, (Nat.le_of_ble_eq_true rfl), (Nat.le_of_ble_eq_true rfl)⟩ dX13_roll_8 (fun v2 => ?_)
  exact dn_ret (Nat.le_of_ble_eq_true rfl) (Nat.le_of_ble_eq_true rfl) rfl dX13_roll_11
abbrev rmX13_row : Room := { frames := 3, cells := 0, slots := 0, locals := 72 }
def fX13_row (r0 : Option Nat) (p1 : Int32) (p2 : Int32) (p3 : Int32) (p4 : Int32) : dnM Int32 :=
  dnB (dnCv r0 11 (fX13_rowDeed r0 p1 p2 p3 p4)) fun v1 =>
  dnB (dnCv r0 11 (fX13_said r0 v1)) fun v2 =>
  dnP v2
abbrev jX13_row (w : dnWd) (x : dnX) (b : Nat) := dnD w x b (fun _ => True) cX13_row RX13 5 rmX13_row "row" eI
set_option maxHeartbeats 4000000 in
set_option maxRecDepth 100000 in
theorem mX13_row (w : dnWd) (x : dnX) (b : Nat) (r0 : Option Nat) (p1 : Int32) (p2 : Int32) (p3 : Int32) (p4 : Int32) : dnMt w x b yX13_row cX13_row 5 (some .int) rmX13_row eI [dnV b r0, .int p1, .int p2, .int p3, .int p4] (fX13_row r0 p1 p2 p3 p4) := by
  have hlv : lv_args 0 [dnV b r0, .int p1, .int p2, .int p3, .int p4] = [(0, dnV b r0), (1, .int p1), (2, .int p2), (3, .int p3), (4, .int p4)] := by cases r0 <;> rfl
  refine dn_mt (by decide +kernel) roI (by cases r0 <;> exact (Nat.le_of_ble_eq_true rfl)) ?_
  rw [hlv]
  refine dn_top ?_
  show jX13_row w x b 0 0 0 _ [] (dnB _ dnP)
  unfold fX13_row
  refine dn_aload_n (pc := 0) r0 0 dX13_row_0 rfl ?_
  refine dn_aload_n (pc := 1) r0 0 dX13_row_1 rfl ?_
  refine dn_iload_n (pc := 2) 1 dX13_row_2 rfl ?_
  refine dn_iload_n (pc := 3) 2 dX13_row_3 rfl ?_
  refine dn_iload_n (pc := 4) 3 dX13_row_4 rfl ?_
  refine dn_iload (pc := 5) 4 dX13_row_5 rfl ?_
  refine dn_callV0I (pc := 7) [.int p1, .int p2, .int p3, .int p4] r0 kRX13_158 (mX13_rowDeed w x b r0 p1 p2 p3 p4) rfl rfl (Nat.le_of_ble_eq_true rfl) ⟨(Nat.le_of_ble_eq_true rfl), (Nat.le_of_ble_eq_true rfl)⟩ ⟨rfl, rfl, (Nat.le_of_ble_eq_true rfl), (Nat.le_of_ble_eq_true rfl)⟩ dX13_row_7 (fun v1 => ?_)
  refine dn_callV0I (pc := 10) [.int v1] r0 kRX13_137 (mX13_said w x b r0 v1) rfl rfl (Nat.le_of_ble_eq_true rfl) ⟨(Nat.le_of_ble_eq_true rfl), (Nat.le_of_ble_eq_true rfl)⟩ ⟨rfl, rfl, (Nat.le_of_ble_eq_true rfl), (Nat.le_of_ble_eq_true rfl)⟩ dX13_row_10 (fun v2 => ?_)
  exact dn_ret (Nat.le_of_ble_eq_true rfl) (Nat.le_of_ble_eq_true rfl) rfl dX13_row_13
abbrev rmX13_sameAnswer : Room := { frames := 4, cells := 0, slots := 0, locals := 93 }
def fX13_sameAnswer (r0 : Option Nat) (p1 : Int32) (p2 : Int32) (p3 : Int32) (p4 : Int32) : dnM Int32 :=
  dnB (fX13_isGrid p1) fun v1 =>
  if v1 = true then
  (dnB (fX13_isGrid p3) fun v2 =>
  if v2 = true then
  (dnB (dnCv r0 11 (fX13_twoRows r0 p1 p2 p3 p4)) fun v3 =>
  if v3 = 0 then
  (dnB (dnCv r0 11 (fX13_held r0 p1 p2)) fun v4 =>
  dnB (dnCv r0 11 (fX13_held r0 p3 p4)) fun v5 =>
  if ¬ v4 = v5 then
  (dnP 0)
  else
  (dnP 1))
  else
  (dnP v3))
  else
  (dnP (-1)))
  else
  (dnP (-1))
abbrev jX13_sameAnswer (w : dnWd) (x : dnX) (b : Nat) := dnD w x b (fun _ => True) cX13_sameAnswer RX13 6 rmX13_sameAnswer "sameAnswer" eI
set_option maxHeartbeats 4000000 in
set_option maxRecDepth 100000 in
theorem mX13_sameAnswer (w : dnWd) (x : dnX) (b : Nat) (r0 : Option Nat) (p1 : Int32) (p2 : Int32) (p3 : Int32) (p4 : Int32) : dnMt w x b yX13_sameAnswer cX13_sameAnswer 6 (some .int) rmX13_sameAnswer eI [dnV b r0, .int p1, .int p2, .int p3, .int p4] (fX13_sameAnswer r0 p1 p2 p3 p4) := by
  have hlv : lv_args 0 [dnV b r0, .int p1, .int p2, .int p3, .int p4] = [(0, dnV b r0), (1, .int p1), (2, .int p2), (3, .int p3), (4, .int p4)] := by cases r0 <;> rfl
  refine dn_mt (by decide +kernel) roI (by cases r0 <;> exact (Nat.le_of_ble_eq_true rfl)) ?_
  rw [hlv]
  refine dn_top ?_
  show jX13_sameAnswer w x b 0 0 0 _ [] (dnB _ dnP)
  unfold fX13_sameAnswer
  refine dn_iload_n (pc := 0) 1 dX13_sameAnswer_0 rfl ?_
  refine dn_callS0Z (pc := 1) [.int p1]  kRX13_134 (mX13_isGrid w x b p1) rfl rfl (Nat.le_of_ble_eq_true rfl) ⟨(Nat.le_of_ble_eq_true rfl), (Nat.le_of_ble_eq_true rfl)⟩ ⟨rfl, rfl, (Nat.le_of_ble_eq_true rfl), (Nat.le_of_ble_eq_true rfl)⟩ dX13_sameAnswer_1 (fun v1 => ?_)
  refine dn_ifz_eq (pc := 4) 14 dX13_sameAnswer_4 rfl (fun _ => ?_) (fun _ => ?_)
  · refine dn_iload_n (pc := 7) 3 dX13_sameAnswer_7 rfl ?_
    refine dn_callS0Z (pc := 8) [.int p3]  kRX13_134 (mX13_isGrid w x b p3) rfl rfl (Nat.le_of_ble_eq_true rfl) ⟨(Nat.le_of_ble_eq_true rfl), (Nat.le_of_ble_eq_true rfl)⟩ ⟨rfl, rfl, (Nat.le_of_ble_eq_true rfl), (Nat.le_of_ble_eq_true rfl)⟩ dX13_sameAnswer_8 (fun v2 => ?_)
    refine dn_ifz_ne (pc := 11) 16 dX13_sameAnswer_11 rfl (fun _ => ?_) (fun _ => ?_)
    · refine dn_aload_n (pc := 16) r0 0 dX13_sameAnswer_16 rfl ?_
      refine dn_iload_n (pc := 17) 1 dX13_sameAnswer_17 rfl ?_
      refine dn_iload_n (pc := 18) 2 dX13_sameAnswer_18 rfl ?_
      refine dn_iload_n (pc := 19) 3 dX13_sameAnswer_19 rfl ?_
      refine dn_iload (pc := 20) 4 dX13_sameAnswer_20 rfl ?_
      refine dn_callV0I (pc := 22) [.int p1, .int p2, .int p3, .int p4] r0 kRX13_181 (mX13_twoRows w x b r0 p1 p2 p3 p4) rfl rfl (Nat.le_of_ble_eq_true rfl) ⟨(Nat.le_of_ble_eq_true rfl), (Nat.le_of_ble_eq_true rfl)⟩ ⟨rfl, rfl, (Nat.le_of_ble_eq_true rfl), (Nat.le_of_ble_eq_true rfl)⟩ dX13_sameAnswer_22 (fun v3 => ?_)
      refine dn_istore (pc := 25) dX13_sameAnswer_25 (Nat.le_of_ble_eq_true rfl) (dnKp_nb 4 rfl rfl rfl (dnKp_of (lv2 := [(0, dnV b r0), (1, .int p1), (2, .int p2), (3, .int p3)]) [0, 1, 2, 3] rfl rfl)) ?_
      refine dn_iload (pc := 27) 0 dX13_sameAnswer_27 rfl ?_
      refine dn_if_eq (pc := 29) 37 dX13_sameAnswer_29 rfl (fun _ => ?_) (fun _ => ?_)
      · refine dn_aload_n (pc := 37) r0 2 dX13_sameAnswer_37 rfl ?_
        refine dn_iload_n (pc := 38) 3 dX13_sameAnswer_38 rfl ?_
        refine dn_iload_n (pc := 39) 4 dX13_sameAnswer_39 rfl ?_
        refine dn_callV0I (pc := 40) [.int p1, .int p2] r0 kRX13_128 (mX13_held w x b r0 p1 p2) rfl rfl (Nat.le_of_ble_eq_true rfl) ⟨(Nat.le_of_ble_eq_true rfl), (Nat.le_of_ble_eq_true rfl)⟩ ⟨rfl, rfl, (Nat.le_of_ble_eq_true rfl), (Nat.le_of_ble_eq_true rfl)⟩ dX13_sameAnswer_40 (fun v4 => ?_)
        refine dn_aload_n (pc := 43) r0 2 dX13_sameAnswer_43 rfl ?_
        refine dn_iload_n (pc := 44) 5 dX13_sameAnswer_44 rfl ?_
        refine dn_iload (pc := 45) 1 dX13_sameAnswer_45 rfl ?_
        refine dn_callV0I (pc := 47) [.int p3, .int p4] r0 kRX13_128 (mX13_held w x b r0 p3 p4) rfl rfl (Nat.le_of_ble_eq_true rfl) ⟨(Nat.le_of_ble_eq_true rfl), (Nat.le_of_ble_eq_true rfl)⟩ ⟨rfl, rfl, (Nat.le_of_ble_eq_true rfl), (Nat.le_of_ble_eq_true rfl)⟩ dX13_sameAnswer_47 (fun v5 => ?_)
        refine dn_icmp_ne (pc := 50) 57 dX13_sameAnswer_50 rfl (fun _ => ?_) (fun _ => ?_)
        · refine dn_iconst (pc := 57) (v := 0) dX13_sameAnswer_57 rfl ?_
          exact dn_ret (Nat.le_of_ble_eq_true rfl) (Nat.le_of_ble_eq_true rfl) rfl dX13_sameAnswer_58
        · refine dn_iconst (pc := 53) (v := 1) dX13_sameAnswer_53 rfl ?_
          refine dn_goto (pc := 54) 58 dX13_sameAnswer_54 rfl ?_
          exact dn_ret (Nat.le_of_ble_eq_true rfl) (Nat.le_of_ble_eq_true rfl) rfl dX13_sameAnswer_58
      · refine dn_iload (pc := 32) 0 dX13_sameAnswer_32 rfl ?_
        refine dn_goto (pc := 34) 58 dX13_sameAnswer_34 rfl ?_
        exact dn_ret (Nat.le_of_ble_eq_true rfl) (Nat.le_of_ble_eq_true rfl) rfl dX13_sameAnswer_58
    · refine dn_iconst (pc := 14) (v := -1) dX13_sameAnswer_14 rfl ?_
      exact dn_ret (Nat.le_of_ble_eq_true rfl) (Nat.le_of_ble_eq_true rfl) rfl dX13_sameAnswer_15
  · refine dn_iconst (pc := 14) (v := -1) dX13_sameAnswer_14 rfl ?_
    exact dn_ret (Nat.le_of_ble_eq_true rfl) (Nat.le_of_ble_eq_true rfl) rfl dX13_sameAnswer_15
abbrev rmX13_same : Room := { frames := 5, cells := 0, slots := 0, locals := 118 }
def fX13_same (r0 : Option Nat) (p1 : Int32) (p2 : Int32) (p3 : Int32) (p4 : Int32) : dnM Int32 :=
  dnB (dnCv r0 11 (fX13_sameAnswer r0 p1 p2 p3 p4)) fun v1 =>
  dnB (dnCv r0 11 (fX13_said r0 v1)) fun v2 =>
  dnP v2
abbrev jX13_same (w : dnWd) (x : dnX) (b : Nat) := dnD w x b (fun _ => True) cX13_same RX13 5 rmX13_same "same" eI
set_option maxHeartbeats 4000000 in
set_option maxRecDepth 100000 in
theorem mX13_same (w : dnWd) (x : dnX) (b : Nat) (r0 : Option Nat) (p1 : Int32) (p2 : Int32) (p3 : Int32) (p4 : Int32) : dnMt w x b yX13_same cX13_same 5 (some .int) rmX13_same eI [dnV b r0, .int p1, .int p2, .int p3, .int p4] (fX13_same r0 p1 p2 p3 p4) := by
  have hlv : lv_args 0 [dnV b r0, .int p1, .int p2, .int p3, .int p4] = [(0, dnV b r0), (1, .int p1), (2, .int p2), (3, .int p3), (4, .int p4)] := by cases r0 <;> rfl
  refine dn_mt (by decide +kernel) roI (by cases r0 <;> exact (Nat.le_of_ble_eq_true rfl)) ?_
  rw [hlv]
  refine dn_top ?_
  show jX13_same w x b 0 0 0 _ [] (dnB _ dnP)
  unfold fX13_same
  refine dn_aload_n (pc := 0) r0 0 dX13_same_0 rfl ?_
  refine dn_aload_n (pc := 1) r0 0 dX13_same_1 rfl ?_
  refine dn_iload_n (pc := 2) 1 dX13_same_2 rfl ?_
  refine dn_iload_n (pc := 3) 2 dX13_same_3 rfl ?_
  refine dn_iload_n (pc := 4) 3 dX13_same_4 rfl ?_
  refine dn_iload (pc := 5) 4 dX13_same_5 rfl ?_
  refine dn_callV0I (pc := 7) [.int p1, .int p2, .int p3, .int p4] r0 kRX13_184 (mX13_sameAnswer w x b r0 p1 p2 p3 p4) rfl rfl (Nat.le_of_ble_eq_true rfl) ⟨(Nat.le_of_ble_eq_true rfl), (Nat.le_of_ble_eq_true rfl)⟩ ⟨rfl, rfl, (Nat.le_of_ble_eq_true rfl), (Nat.le_of_ble_eq_true rfl)⟩ dX13_same_7 (fun v1 => ?_)
  refine dn_callV0I (pc := 10) [.int v1] r0 kRX13_137 (mX13_said w x b r0 v1) rfl rfl (Nat.le_of_ble_eq_true rfl) ⟨(Nat.le_of_ble_eq_true rfl), (Nat.le_of_ble_eq_true rfl)⟩ ⟨rfl, rfl, (Nat.le_of_ble_eq_true rfl), (Nat.le_of_ble_eq_true rfl)⟩ dX13_same_10 (fun v2 => ?_)
  exact dn_ret (Nat.le_of_ble_eq_true rfl) (Nat.le_of_ble_eq_true rfl) rfl dX13_same_13
abbrev rmX13_sees : Room := { frames := 2, cells := 0, slots := 0, locals := 43 }
def fX13_sees_j19 (l0 : Option Nat) : dnM Int32 :=
  dnB (dnCv l0 11 (fX13_said l0 (-1))) fun v1 =>
  dnP v1
def fX13_sees (r0 : Option Nat) (p1 : Int32) (p2 : Int32) : dnM Int32 :=
  dnB (fX13_in p1 0 27) fun v2 =>
  if v2 = true then
  (dnB (fX13_in p2 0 1) fun v3 =>
  if v3 = true then
  (dnB (dnGI r0 11 43) fun v4 =>
  if ¬ v4 = 6 then
  (dnB (dnGR r0 11 44) fun v5 =>
  dnB (dnGI r0 11 43) fun v6 =>
  dnB (dnTI v5 100 v6 p1) fun _ =>
  dnB (dnGR r0 11 45) fun v7 =>
  dnB (dnGI r0 11 43) fun v8 =>
  dnB (dnTI v7 100 v8 p2) fun _ =>
  dnB (dnGI r0 11 43) fun v9 =>
  dnB (dnPI r0 11 43 (v9 + 1)) fun _ =>
  dnB (dnGI r0 11 43) fun v10 =>
  dnP v10)
  else
  (dnB (dnCv r0 11 (fX13_said r0 (-10))) fun v11 =>
  dnP v11))
  else
  (fX13_sees_j19 r0))
  else
  (fX13_sees_j19 r0)
abbrev jX13_sees (w : dnWd) (x : dnX) (b : Nat) := dnD w x b (fun _ => True) cX13_sees RX13 3 rmX13_sees "sees" eI
set_option maxHeartbeats 4000000 in
set_option maxRecDepth 100000 in
theorem mX13_sees (w : dnWd) (x : dnX) (b : Nat) (r0 : Option Nat) (p1 : Int32) (p2 : Int32) : dnMt w x b yX13_sees cX13_sees 3 (some .int) rmX13_sees eI [dnV b r0, .int p1, .int p2] (fX13_sees r0 p1 p2) := by
  have hlv : lv_args 0 [dnV b r0, .int p1, .int p2] = [(0, dnV b r0), (1, .int p1), (2, .int p2)] := by cases r0 <;> rfl
  refine dn_mt (by decide +kernel) roI (by cases r0 <;> exact (Nat.le_of_ble_eq_true rfl)) ?_
  rw [hlv]
  refine dn_top ?_
  show jX13_sees w x b 0 0 0 _ [] (dnB _ dnP)
  unfold fX13_sees
  have hj19 : ∀ (l0 : Option Nat), jX13_sees w x b 19 0 0 [(0, dnV b l0)] [] (dnB (fX13_sees_j19 l0) dnP) := by
    intro l0
    unfold fX13_sees_j19
    refine dn_aload_n (pc := 19) l0 0 dX13_sees_19 rfl ?_
    refine dn_iconst (pc := 20) (v := -1) dX13_sees_20 rfl ?_
    refine dn_callV0I (pc := 21) [.int (-1)] l0 kRX13_137 (mX13_said w x b l0 (-1)) rfl rfl (Nat.le_of_ble_eq_true rfl) ⟨(Nat.le_of_ble_eq_true rfl), (Nat.le_of_ble_eq_true rfl)⟩ ⟨rfl, rfl, (Nat.le_of_ble_eq_true rfl), (Nat.le_of_ble_eq_true rfl)⟩ dX13_sees_21 (fun v1 => ?_)
    exact dn_ret (Nat.le_of_ble_eq_true rfl) (Nat.le_of_ble_eq_true rfl) rfl dX13_sees_24
  refine dn_iload_n (pc := 0) 1 dX13_sees_0 rfl ?_
  refine dn_iconst (pc := 1) (v := 0) dX13_sees_1 rfl ?_
  refine dn_bipush (pc := 2) (v := 27) dX13_sees_2 rfl ?_
  refine dn_callS0Z (pc := 4) [.int p1, .int 0, .int 27]  kRX13_109 (mX13_in w x b p1 0 27) rfl rfl (Nat.le_of_ble_eq_true rfl) ⟨(Nat.le_of_ble_eq_true rfl), (Nat.le_of_ble_eq_true rfl)⟩ ⟨rfl, rfl, (Nat.le_of_ble_eq_true rfl), (Nat.le_of_ble_eq_true rfl)⟩ dX13_sees_4 (fun v2 => ?_)
  refine dn_ifz_eq (pc := 7) 19 dX13_sees_7 rfl (fun _ => ?_) (fun _ => ?_)
  · refine dn_iload_n (pc := 10) 2 dX13_sees_10 rfl ?_
    refine dn_iconst (pc := 11) (v := 0) dX13_sees_11 rfl ?_
    refine dn_iconst (pc := 12) (v := 1) dX13_sees_12 rfl ?_
    refine dn_callS0Z (pc := 13) [.int p2, .int 0, .int 1]  kRX13_109 (mX13_in w x b p2 0 1) rfl rfl (Nat.le_of_ble_eq_true rfl) ⟨(Nat.le_of_ble_eq_true rfl), (Nat.le_of_ble_eq_true rfl)⟩ ⟨rfl, rfl, (Nat.le_of_ble_eq_true rfl), (Nat.le_of_ble_eq_true rfl)⟩ dX13_sees_13 (fun v3 => ?_)
    refine dn_ifz_ne (pc := 16) 25 dX13_sees_16 rfl (fun _ => ?_) (fun _ => ?_)
    · refine dn_aload_n (pc := 25) r0 0 dX13_sees_25 rfl ?_
      refine dn_getI (pc := 26) r0 lRX13_531 dX13_sees_26 (fun v4 => ?_)
      refine dn_bipush (pc := 29) (v := 6) dX13_sees_29 rfl ?_
      refine dn_icmp_ne (pc := 31) 41 dX13_sees_31 rfl (fun _ => ?_) (fun _ => ?_)
      · refine dn_aload_n (pc := 41) r0 0 dX13_sees_41 rfl ?_
        refine dn_getR (pc := 42) r0 lRX13_103 dX13_sees_42 (fun v5 => ?_)
        refine dn_aload_n (pc := 45) r0 0 dX13_sees_45 rfl ?_
        refine dn_getI (pc := 46) r0 lRX13_531 dX13_sees_46 (fun v6 => ?_)
        refine dn_iload_n (pc := 49) 1 dX13_sees_49 rfl ?_
        refine dn_iast (pc := 50) v5 dX13_sees_50 ?_
        refine dn_aload_n (pc := 51) r0 0 dX13_sees_51 rfl ?_
        refine dn_getR (pc := 52) r0 lRX13_106 dX13_sees_52 (fun v7 => ?_)
        refine dn_aload_n (pc := 55) r0 0 dX13_sees_55 rfl ?_
        refine dn_getI (pc := 56) r0 lRX13_531 dX13_sees_56 (fun v8 => ?_)
        refine dn_iload_n (pc := 59) 2 dX13_sees_59 rfl ?_
        refine dn_iast (pc := 60) v7 dX13_sees_60 ?_
        refine dn_aload_n (pc := 61) r0 0 dX13_sees_61 rfl ?_
        refine dn_dup (pc := 62) dX13_sees_62 (dn_cat b _) ?_
        refine dn_getI (pc := 63) r0 lRX13_531 dX13_sees_63 (fun v9 => ?_)
        refine dn_iconst (pc := 66) (v := 1) dX13_sees_66 rfl ?_
        refine dn_iadd (pc := 67) dX13_sees_67 ?_
        refine dn_putI (pc := 68) r0 lRX13_531 dX13_sees_68 ?_
        refine dn_aload_n (pc := 71) r0 0 dX13_sees_71 rfl ?_
        refine dn_getI (pc := 72) r0 lRX13_531 dX13_sees_72 (fun v10 => ?_)
        exact dn_ret (Nat.le_of_ble_eq_true rfl) (Nat.le_of_ble_eq_true rfl) rfl dX13_sees_75
      · refine dn_aload_n (pc := 34) r0 0 dX13_sees_34 rfl ?_
        refine dn_bipush (pc := 35) (v := -10) dX13_sees_35 rfl ?_
        refine dn_callV0I (pc := 37) [.int (-10)] r0 kRX13_137 (mX13_said w x b r0 (-10)) rfl rfl (Nat.le_of_ble_eq_true rfl) ⟨(Nat.le_of_ble_eq_true rfl), (Nat.le_of_ble_eq_true rfl)⟩ ⟨rfl, rfl, (Nat.le_of_ble_eq_true rfl), (Nat.le_of_ble_eq_true rfl)⟩ dX13_sees_37 (fun v11 => ?_)
        exact dn_ret (Nat.le_of_ble_eq_true rfl) (Nat.le_of_ble_eq_true rfl) rfl dX13_sees_40
    · exact dn_lv [0] rfl (hj19 r0)
  · exact dn_lv [0] rfl (hj19 r0)
abbrev rmX13_share : Room := { frames := 4, cells := 0, slots := 0, locals := 94 }
def fX13_share (r0 : Option Nat) (p1 : Int32) (p2 : Int32) (p3 : Int32) (p4 : Int32) : dnM Int32 :=
  dnB (dnCv r0 11 (fX13_shareDeed r0 p1 p2 p3 p4)) fun v1 =>
  dnB (dnCv r0 11 (fX13_said r0 v1)) fun v2 =>
  dnP v2
abbrev jX13_share (w : dnWd) (x : dnX) (b : Nat) := dnD w x b (fun _ => True) cX13_share RX13 5 rmX13_share "share" eI
set_option maxHeartbeats 4000000 in
set_option maxRecDepth 100000 in
theorem mX13_share (w : dnWd) (x : dnX) (b : Nat) (r0 : Option Nat) (p1 : Int32) (p2 : Int32) (p3 : Int32) (p4 : Int32) : dnMt w x b yX13_share cX13_share 5 (some .int) rmX13_share eI [dnV b r0, .int p1, .int p2, .int p3, .int p4] (fX13_share r0 p1 p2 p3 p4) := by
  have hlv : lv_args 0 [dnV b r0, .int p1, .int p2, .int p3, .int p4] = [(0, dnV b r0), (1, .int p1), (2, .int p2), (3, .int p3), (4, .int p4)] := by cases r0 <;> rfl
  refine dn_mt (by decide +kernel) roI (by cases r0 <;> exact (Nat.le_of_ble_eq_true rfl)) ?_
  rw [hlv]
  refine dn_top ?_
  show jX13_share w x b 0 0 0 _ [] (dnB _ dnP)
  unfold fX13_share
  refine dn_aload_n (pc := 0) r0 0 dX13_share_0 rfl ?_
  refine dn_aload_n (pc := 1) r0 0 dX13_share_1 rfl ?_
  refine dn_iload_n (pc := 2) 1 dX13_share_2 rfl ?_
  refine dn_iload_n (pc := 3) 2 dX13_share_3 rfl ?_
  refine dn_iload_n (pc := 4) 3 dX13_share_4 rfl ?_
  refine dn_iload (pc := 5) 4 dX13_share_5 rfl ?_
  refine dn_callV0I (pc := 7) [.int p1, .int p2, .int p3, .int p4] r0 kRX13_172 (mX13_shareDeed w x b r0 p1 p2 p3 p4) rfl rfl (Nat.le_of_ble_eq_true rfl) ⟨(Nat.le_of_ble_eq_true rfl), (Nat.le_of_ble_eq_true rfl)⟩ ⟨rfl, rfl, (Nat.le_of_ble_eq_true rfl), (Nat.le_of_ble_eq_true rfl)⟩ dX13_share_7 (fun v1 => ?_)
  refine dn_callV0I (pc := 10) [.int v1] r0 kRX13_137 (mX13_said w x b r0 v1) rfl rfl (Nat.le_of_ble_eq_true rfl) ⟨(Nat.le_of_ble_eq_true rfl), (Nat.le_of_ble_eq_true rfl)⟩ ⟨rfl, rfl, (Nat.le_of_ble_eq_true rfl), (Nat.le_of_ble_eq_true rfl)⟩ dX13_share_10 (fun v2 => ?_)
  exact dn_ret (Nat.le_of_ble_eq_true rfl) (Nat.le_of_ble_eq_true rfl) rfl dX13_share_13
abbrev rmX13_sizeAnswer : Room := { frames := 3, cells := 0, slots := 0, locals := 68 }
def fX13_sizeAnswer (r0 : Option Nat) (p1 : Int32) (p2 : Int32) : dnM Int32 :=
  dnB (fX13_isGrid p1) fun v1 =>
  if v1 = true then
  (dnB (dnCv r0 11 (fX13_rowFault r0 p1 p2)) fun v2 =>
  if v2 = 0 then
  (dnB (dnGR r0 11 7) fun v3 =>
  dnB (dnCv r0 11 (fX13_held r0 p1 p2)) fun v4 =>
  dnB (dnAI v3 100 v4) fun v5 =>
  dnP v5)
  else
  (dnP v2))
  else
  (dnP (-1))
abbrev jX13_sizeAnswer (w : dnWd) (x : dnX) (b : Nat) := dnD w x b (fun _ => True) cX13_sizeAnswer RX13 4 rmX13_sizeAnswer "sizeAnswer" eI
set_option maxHeartbeats 4000000 in
set_option maxRecDepth 100000 in
theorem mX13_sizeAnswer (w : dnWd) (x : dnX) (b : Nat) (r0 : Option Nat) (p1 : Int32) (p2 : Int32) : dnMt w x b yX13_sizeAnswer cX13_sizeAnswer 4 (some .int) rmX13_sizeAnswer eI [dnV b r0, .int p1, .int p2] (fX13_sizeAnswer r0 p1 p2) := by
  have hlv : lv_args 0 [dnV b r0, .int p1, .int p2] = [(0, dnV b r0), (1, .int p1), (2, .int p2)] := by cases r0 <;> rfl
  refine dn_mt (by decide +kernel) roI (by cases r0 <;> exact (Nat.le_of_ble_eq_true rfl)) ?_
  rw [hlv]
  refine dn_top ?_
  show jX13_sizeAnswer w x b 0 0 0 _ [] (dnB _ dnP)
  unfold fX13_sizeAnswer
  refine dn_iload_n (pc := 0) 1 dX13_sizeAnswer_0 rfl ?_
  refine dn_callS0Z (pc := 1) [.int p1]  kRX13_134 (mX13_isGrid w x b p1) rfl rfl (Nat.le_of_ble_eq_true rfl) ⟨(Nat.le_of_ble_eq_true rfl), (Nat.le_of_ble_eq_true rfl)⟩ ⟨rfl, rfl, (Nat.le_of_ble_eq_true rfl), (Nat.le_of_ble_eq_true rfl)⟩ dX13_sizeAnswer_1 (fun v1 => ?_)
  refine dn_ifz_ne (pc := 4) 9 dX13_sizeAnswer_4 rfl (fun _ => ?_) (fun _ => ?_)
  · refine dn_aload_n (pc := 9) r0 0 dX13_sizeAnswer_9 rfl ?_
    refine dn_iload_n (pc := 10) 1 dX13_sizeAnswer_10 rfl ?_
    refine dn_iload_n (pc := 11) 2 dX13_sizeAnswer_11 rfl ?_
    refine dn_callV0I (pc := 12) [.int p1, .int p2] r0 kRX13_131 (mX13_rowFault w x b r0 p1 p2) rfl rfl (Nat.le_of_ble_eq_true rfl) ⟨(Nat.le_of_ble_eq_true rfl), (Nat.le_of_ble_eq_true rfl)⟩ ⟨rfl, rfl, (Nat.le_of_ble_eq_true rfl), (Nat.le_of_ble_eq_true rfl)⟩ dX13_sizeAnswer_12 (fun v2 => ?_)
    refine dn_istore_n (pc := 15) dX13_sizeAnswer_15 (Nat.le_of_ble_eq_true rfl) (dnKp_nb 2 rfl rfl rfl (dnKp_of (lv2 := [(0, dnV b r0), (1, .int p1)]) [0, 1] rfl rfl)) ?_
    refine dn_iload_n (pc := 16) 0 dX13_sizeAnswer_16 rfl ?_
    refine dn_if_eq (pc := 17) 24 dX13_sizeAnswer_17 rfl (fun _ => ?_) (fun _ => ?_)
    · refine dn_aload_n (pc := 24) r0 2 dX13_sizeAnswer_24 rfl ?_
      refine dn_getR (pc := 25) r0 lRX13_26 dX13_sizeAnswer_25 (fun v3 => ?_)
      refine dn_aload_n (pc := 28) r0 2 dX13_sizeAnswer_28 rfl ?_
      refine dn_iload_n (pc := 29) 3 dX13_sizeAnswer_29 rfl ?_
      refine dn_iload_n (pc := 30) 1 dX13_sizeAnswer_30 rfl ?_
      refine dn_callV0I (pc := 31) [.int p1, .int p2] r0 kRX13_128 (mX13_held w x b r0 p1 p2) rfl rfl (Nat.le_of_ble_eq_true rfl) ⟨(Nat.le_of_ble_eq_true rfl), (Nat.le_of_ble_eq_true rfl)⟩ ⟨rfl, rfl, (Nat.le_of_ble_eq_true rfl), (Nat.le_of_ble_eq_true rfl)⟩ dX13_sizeAnswer_31 (fun v4 => ?_)
      refine dn_iald (pc := 34) v3 dX13_sizeAnswer_34 (fun v5 => ?_)
      exact dn_ret (Nat.le_of_ble_eq_true rfl) (Nat.le_of_ble_eq_true rfl) rfl dX13_sizeAnswer_35
    · refine dn_iload_n (pc := 20) 0 dX13_sizeAnswer_20 rfl ?_
      refine dn_goto (pc := 21) 35 dX13_sizeAnswer_21 rfl ?_
      exact dn_ret (Nat.le_of_ble_eq_true rfl) (Nat.le_of_ble_eq_true rfl) rfl dX13_sizeAnswer_35
  · refine dn_iconst (pc := 7) (v := -1) dX13_sizeAnswer_7 rfl ?_
    exact dn_ret (Nat.le_of_ble_eq_true rfl) (Nat.le_of_ble_eq_true rfl) rfl dX13_sizeAnswer_8
abbrev rmX13_size : Room := { frames := 4, cells := 0, slots := 0, locals := 91 }
def fX13_size (r0 : Option Nat) (p1 : Int32) (p2 : Int32) : dnM Int32 :=
  dnB (dnCv r0 11 (fX13_sizeAnswer r0 p1 p2)) fun v1 =>
  dnB (dnCv r0 11 (fX13_said r0 v1)) fun v2 =>
  dnP v2
abbrev jX13_size (w : dnWd) (x : dnX) (b : Nat) := dnD w x b (fun _ => True) cX13_size RX13 3 rmX13_size "size" eI
set_option maxHeartbeats 4000000 in
set_option maxRecDepth 100000 in
theorem mX13_size (w : dnWd) (x : dnX) (b : Nat) (r0 : Option Nat) (p1 : Int32) (p2 : Int32) : dnMt w x b yX13_size cX13_size 3 (some .int) rmX13_size eI [dnV b r0, .int p1, .int p2] (fX13_size r0 p1 p2) := by
  have hlv : lv_args 0 [dnV b r0, .int p1, .int p2] = [(0, dnV b r0), (1, .int p1), (2, .int p2)] := by cases r0 <;> rfl
  refine dn_mt (by decide +kernel) roI (by cases r0 <;> exact (Nat.le_of_ble_eq_true rfl)) ?_
  rw [hlv]
  refine dn_top ?_
  show jX13_size w x b 0 0 0 _ [] (dnB _ dnP)
  unfold fX13_size
  refine dn_aload_n (pc := 0) r0 0 dX13_size_0 rfl ?_
  refine dn_aload_n (pc := 1) r0 0 dX13_size_1 rfl ?_
  refine dn_iload_n (pc := 2) 1 dX13_size_2 rfl ?_
  refine dn_iload_n (pc := 3) 2 dX13_size_3 rfl ?_
  refine dn_callV0I (pc := 4) [.int p1, .int p2] r0 kRX13_187 (mX13_sizeAnswer w x b r0 p1 p2) rfl rfl (Nat.le_of_ble_eq_true rfl) ⟨(Nat.le_of_ble_eq_true rfl), (Nat.le_of_ble_eq_true rfl)⟩ ⟨rfl, rfl, (Nat.le_of_ble_eq_true rfl), (Nat.le_of_ble_eq_true rfl)⟩ dX13_size_4 (fun v1 => ?_)
  refine dn_callV0I (pc := 7) [.int v1] r0 kRX13_137 (mX13_said w x b r0 v1) rfl rfl (Nat.le_of_ble_eq_true rfl) ⟨(Nat.le_of_ble_eq_true rfl), (Nat.le_of_ble_eq_true rfl)⟩ ⟨rfl, rfl, (Nat.le_of_ble_eq_true rfl), (Nat.le_of_ble_eq_true rfl)⟩ dX13_size_7 (fun v2 => ?_)
  exact dn_ret (Nat.le_of_ble_eq_true rfl) (Nat.le_of_ble_eq_true rfl) rfl dX13_size_10
abbrev rmX13_swap : Room := { frames := 4, cells := 0, slots := 0, locals := 95 }
def fX13_swap (r0 : Option Nat) (p1 : Int32) (p2 : Int32) (p3 : Int32) (p4 : Int32) : dnM Int32 :=
  dnB (dnCv r0 11 (fX13_swapDeed r0 p1 p2 p3 p4)) fun v1 =>
  dnB (dnCv r0 11 (fX13_said r0 v1)) fun v2 =>
  dnP v2
abbrev jX13_swap (w : dnWd) (x : dnX) (b : Nat) := dnD w x b (fun _ => True) cX13_swap RX13 5 rmX13_swap "swap" eI
set_option maxHeartbeats 4000000 in
set_option maxRecDepth 100000 in
theorem mX13_swap (w : dnWd) (x : dnX) (b : Nat) (r0 : Option Nat) (p1 : Int32) (p2 : Int32) (p3 : Int32) (p4 : Int32) : dnMt w x b yX13_swap cX13_swap 5 (some .int) rmX13_swap eI [dnV b r0, .int p1, .int p2, .int p3, .int p4] (fX13_swap r0 p1 p2 p3 p4) := by
  have hlv : lv_args 0 [dnV b r0, .int p1, .int p2, .int p3, .int p4] = [(0, dnV b r0), (1, .int p1), (2, .int p2), (3, .int p3), (4, .int p4)] := by cases r0 <;> rfl
  refine dn_mt (by decide +kernel) roI (by cases r0 <;> exact (Nat.le_of_ble_eq_true rfl)) ?_
  rw [hlv]
  refine dn_top ?_
  show jX13_swap w x b 0 0 0 _ [] (dnB _ dnP)
  unfold fX13_swap
  refine dn_aload_n (pc := 0) r0 0 dX13_swap_0 rfl ?_
  refine dn_aload_n (pc := 1) r0 0 dX13_swap_1 rfl ?_
  refine dn_iload_n (pc := 2) 1 dX13_swap_2 rfl ?_
  refine dn_iload_n (pc := 3) 2 dX13_swap_3 rfl ?_
  refine dn_iload_n (pc := 4) 3 dX13_swap_4 rfl ?_
  refine dn_iload (pc := 5) 4 dX13_swap_5 rfl ?_
  refine dn_callV0I (pc := 7) [.int p1, .int p2, .int p3, .int p4] r0 kRX13_175 (mX13_swapDeed w x b r0 p1 p2 p3 p4) rfl rfl (Nat.le_of_ble_eq_true rfl) ⟨(Nat.le_of_ble_eq_true rfl), (Nat.le_of_ble_eq_true rfl)⟩ ⟨rfl, rfl, (Nat.le_of_ble_eq_true rfl), (Nat.le_of_ble_eq_true rfl)⟩ dX13_swap_7 (fun v1 => ?_)
  refine dn_callV0I (pc := 10) [.int v1] r0 kRX13_137 (mX13_said w x b r0 v1) rfl rfl (Nat.le_of_ble_eq_true rfl) ⟨(Nat.le_of_ble_eq_true rfl), (Nat.le_of_ble_eq_true rfl)⟩ ⟨rfl, rfl, (Nat.le_of_ble_eq_true rfl), (Nat.le_of_ble_eq_true rfl)⟩ dX13_swap_10 (fun v2 => ?_)
  exact dn_ret (Nat.le_of_ble_eq_true rfl) (Nat.le_of_ble_eq_true rfl) rfl dX13_swap_13
abbrev rmX13_thingDeed : Room := { frames := 2, cells := 0, slots := 0, locals := 44 }
def fX13_thingDeed_j40 (l4 : Int32) : dnM Int32 :=
  if ¬ l4 = 0 then
  (dnP l4)
  else
  (dnP 1)
def fX13_thingDeed (r0 : Option Nat) (p1 : Int32) (p2 : Int32) (p3 : Int32) : dnM Int32 :=
  dnB (fX13_isGrid p1) fun v1 =>
  if v1 = true then
  (dnB (fX13_in p3 0 2) fun v2 =>
  if v2 = true then
  (dnB (dnCv r0 11 (fX13_placeFault r0 p1 p2)) fun v3 =>
  if ¬ v3 = 0 then
  (fX13_thingDeed_j40 v3)
  else
  (dnB (dnCv r0 11 (fX13_holdsNow r0 p1 p2 ((-1) - p3))) fun _ =>
  fX13_thingDeed_j40 v3))
  else
  (dnP (-1)))
  else
  (dnP (-1))
abbrev jX13_thingDeed (w : dnWd) (x : dnX) (b : Nat) := dnD w x b (fun _ => True) cX13_thingDeed RX13 5 rmX13_thingDeed "thingDeed" eI
set_option maxHeartbeats 4000000 in
set_option maxRecDepth 100000 in
theorem mX13_thingDeed (w : dnWd) (x : dnX) (b : Nat) (r0 : Option Nat) (p1 : Int32) (p2 : Int32) (p3 : Int32) : dnMt w x b yX13_thingDeed cX13_thingDeed 5 (some .int) rmX13_thingDeed eI [dnV b r0, .int p1, .int p2, .int p3] (fX13_thingDeed r0 p1 p2 p3) := by
  have hlv : lv_args 0 [dnV b r0, .int p1, .int p2, .int p3] = [(0, dnV b r0), (1, .int p1), (2, .int p2), (3, .int p3)] := by cases r0 <;> rfl
  refine dn_mt (by decide +kernel) roI (by cases r0 <;> exact (Nat.le_of_ble_eq_true rfl)) ?_
  rw [hlv]
  refine dn_top ?_
  show jX13_thingDeed w x b 0 0 0 _ [] (dnB _ dnP)
  unfold fX13_thingDeed
  have hj40 : ∀ (l4 : Int32), jX13_thingDeed w x b 40 0 0 [(4, .int l4)] [] (dnB (fX13_thingDeed_j40 l4) dnP) := by
    intro l4
    unfold fX13_thingDeed_j40
    refine dn_iload (pc := 40) 0 dX13_thingDeed_40 rfl ?_
    refine dn_if_ne (pc := 42) 49 dX13_thingDeed_42 rfl (fun _ => ?_) (fun _ => ?_)
    · refine dn_iload (pc := 49) 0 dX13_thingDeed_49 rfl ?_
      exact dn_ret (Nat.le_of_ble_eq_true rfl) (Nat.le_of_ble_eq_true rfl) rfl dX13_thingDeed_51
    · refine dn_iconst (pc := 45) (v := 1) dX13_thingDeed_45 rfl ?_
      refine dn_goto (pc := 46) 51 dX13_thingDeed_46 rfl ?_
      exact dn_ret (Nat.le_of_ble_eq_true rfl) (Nat.le_of_ble_eq_true rfl) rfl dX13_thingDeed_51
  refine dn_iload_n (pc := 0) 1 dX13_thingDeed_0 rfl ?_
  refine dn_callS0Z (pc := 1) [.int p1]  kRX13_134 (mX13_isGrid w x b p1) rfl rfl (Nat.le_of_ble_eq_true rfl) ⟨(Nat.le_of_ble_eq_true rfl), (Nat.le_of_ble_eq_true rfl)⟩ ⟨rfl, rfl, (Nat.le_of_ble_eq_true rfl), (Nat.le_of_ble_eq_true rfl)⟩ dX13_thingDeed_1 (fun v1 => ?_)
  refine dn_ifz_eq (pc := 4) 16 dX13_thingDeed_4 rfl (fun _ => ?_) (fun _ => ?_)
  · refine dn_iload_n (pc := 7) 3 dX13_thingDeed_7 rfl ?_
    refine dn_iconst (pc := 8) (v := 0) dX13_thingDeed_8 rfl ?_
    refine dn_iconst (pc := 9) (v := 2) dX13_thingDeed_9 rfl ?_
    refine dn_callS0Z (pc := 10) [.int p3, .int 0, .int 2]  kRX13_109 (mX13_in w x b p3 0 2) rfl rfl (Nat.le_of_ble_eq_true rfl) ⟨(Nat.le_of_ble_eq_true rfl), (Nat.le_of_ble_eq_true rfl)⟩ ⟨rfl, rfl, (Nat.le_of_ble_eq_true rfl), (Nat.le_of_ble_eq_true rfl)⟩ dX13_thingDeed_10 (fun v2 => ?_)
    refine dn_ifz_ne (pc := 13) 18 dX13_thingDeed_13 rfl (fun _ => ?_) (fun _ => ?_)
    · refine dn_aload_n (pc := 18) r0 0 dX13_thingDeed_18 rfl ?_
      refine dn_iload_n (pc := 19) 1 dX13_thingDeed_19 rfl ?_
      refine dn_iload_n (pc := 20) 2 dX13_thingDeed_20 rfl ?_
      refine dn_callV0I (pc := 21) [.int p1, .int p2] r0 kRX13_124 (mX13_placeFault w x b r0 p1 p2) rfl rfl (Nat.le_of_ble_eq_true rfl) ⟨(Nat.le_of_ble_eq_true rfl), (Nat.le_of_ble_eq_true rfl)⟩ ⟨rfl, rfl, (Nat.le_of_ble_eq_true rfl), (Nat.le_of_ble_eq_true rfl)⟩ dX13_thingDeed_21 (fun v3 => ?_)
      refine dn_istore (pc := 24) dX13_thingDeed_24 (Nat.le_of_ble_eq_true rfl) (dnKp_nb 3 rfl rfl rfl (dnKp_of (lv2 := [(0, dnV b r0), (1, .int p1), (2, .int p2)]) [0, 1, 2] rfl rfl)) ?_
      refine dn_iload (pc := 26) 0 dX13_thingDeed_26 rfl ?_
      refine dn_if_ne (pc := 28) 40 dX13_thingDeed_28 rfl (fun _ => ?_) (fun _ => ?_)
      · exact dn_lv [0] rfl (hj40 v3)
      · refine dn_aload_n (pc := 31) r0 2 dX13_thingDeed_31 rfl ?_
        refine dn_iload_n (pc := 32) 3 dX13_thingDeed_32 rfl ?_
        refine dn_iload_n (pc := 33) 4 dX13_thingDeed_33 rfl ?_
        refine dn_iconst (pc := 34) (v := -1) dX13_thingDeed_34 rfl ?_
        refine dn_iload_n (pc := 35) 1 dX13_thingDeed_35 rfl ?_
        refine dn_isub (pc := 36) dX13_thingDeed_36 ?_
        refine dn_callV0U (pc := 37) [.int p1, .int p2, .int ((-1) - p3)] r0 kRX13_145 (mX13_holdsNow w x b r0 p1 p2 ((-1) - p3)) rfl rfl (Nat.le_of_ble_eq_true rfl) ⟨(Nat.le_of_ble_eq_true rfl), (Nat.le_of_ble_eq_true rfl)⟩ ⟨rfl, rfl, (Nat.le_of_ble_eq_true rfl), (Nat.le_of_ble_eq_true rfl)⟩ dX13_thingDeed_37 (fun _ => ?_)
        exact dn_lv [0] rfl (hj40 v3)
    · refine dn_iconst (pc := 16) (v := -1) dX13_thingDeed_16 rfl ?_
      exact dn_ret (Nat.le_of_ble_eq_true rfl) (Nat.le_of_ble_eq_true rfl) rfl dX13_thingDeed_17
  · refine dn_iconst (pc := 16) (v := -1) dX13_thingDeed_16 rfl ?_
    exact dn_ret (Nat.le_of_ble_eq_true rfl) (Nat.le_of_ble_eq_true rfl) rfl dX13_thingDeed_17
abbrev rmX13_thing : Room := { frames := 3, cells := 0, slots := 0, locals := 68 }
def fX13_thing (r0 : Option Nat) (p1 : Int32) (p2 : Int32) (p3 : Int32) : dnM Int32 :=
  dnB (dnCv r0 11 (fX13_thingDeed r0 p1 p2 p3)) fun v1 =>
  dnB (dnCv r0 11 (fX13_said r0 v1)) fun v2 =>
  dnP v2
abbrev jX13_thing (w : dnWd) (x : dnX) (b : Nat) := dnD w x b (fun _ => True) cX13_thing RX13 4 rmX13_thing "thing" eI
set_option maxHeartbeats 4000000 in
set_option maxRecDepth 100000 in
theorem mX13_thing (w : dnWd) (x : dnX) (b : Nat) (r0 : Option Nat) (p1 : Int32) (p2 : Int32) (p3 : Int32) : dnMt w x b yX13_thing cX13_thing 4 (some .int) rmX13_thing eI [dnV b r0, .int p1, .int p2, .int p3] (fX13_thing r0 p1 p2 p3) := by
  have hlv : lv_args 0 [dnV b r0, .int p1, .int p2, .int p3] = [(0, dnV b r0), (1, .int p1), (2, .int p2), (3, .int p3)] := by cases r0 <;> rfl
  refine dn_mt (by decide +kernel) roI (by cases r0 <;> exact (Nat.le_of_ble_eq_true rfl)) ?_
  rw [hlv]
  refine dn_top ?_
  show jX13_thing w x b 0 0 0 _ [] (dnB _ dnP)
  unfold fX13_thing
  refine dn_aload_n (pc := 0) r0 0 dX13_thing_0 rfl ?_
  refine dn_aload_n (pc := 1) r0 0 dX13_thing_1 rfl ?_
  refine dn_iload_n (pc := 2) 1 dX13_thing_2 rfl ?_
  refine dn_iload_n (pc := 3) 2 dX13_thing_3 rfl ?_
  refine dn_iload_n (pc := 4) 3 dX13_thing_4 rfl ?_
  refine dn_callV0I (pc := 5) [.int p1, .int p2, .int p3] r0 kRX13_162 (mX13_thingDeed w x b r0 p1 p2 p3) rfl rfl (Nat.le_of_ble_eq_true rfl) ⟨(Nat.le_of_ble_eq_true rfl), (Nat.le_of_ble_eq_true rfl)⟩ ⟨rfl, rfl, (Nat.le_of_ble_eq_true rfl), (Nat.le_of_ble_eq_true rfl)⟩ dX13_thing_5 (fun v1 => ?_)
  refine dn_callV0I (pc := 8) [.int v1] r0 kRX13_137 (mX13_said w x b r0 v1) rfl rfl (Nat.le_of_ble_eq_true rfl) ⟨(Nat.le_of_ble_eq_true rfl), (Nat.le_of_ble_eq_true rfl)⟩ ⟨rfl, rfl, (Nat.le_of_ble_eq_true rfl), (Nat.le_of_ble_eq_true rfl)⟩ dX13_thing_8 (fun v2 => ?_)
  exact dn_ret (Nat.le_of_ble_eq_true rfl) (Nat.le_of_ble_eq_true rfl) rfl dX13_thing_11
abbrev rmX13_timesDeed : Room := { frames := 4, cells := 0, slots := 0, locals := 95 }
def fX13_timesDeed_j92 (s0 : Option Nat) (s1 : Int32) : dnM Int32 :=
  dnB (dnPI s0 11 2 s1) fun _ =>
  dnP (-7)
def fX13_timesDeed_j74 (l0 : Option Nat) (l4 : Int32) (l5 : Int32) : dnM Int32 :=
  if l4 = (-9) then
  (fX13_timesDeed_j92 l0 (10 + l5))
  else
  (fX13_timesDeed_j92 l0 l4)
def fX13_timesDeed_j199 (l0 : Option Nat) (l1 : Int32) (l2 : Int32) (l3 : Int32) (l6 : Int32) (l7 : Int32) (l8 : Int32) : dnM ((Int32) ⊕ (Unit)) :=
  dnP (.inl (l8 + 1))
def fX13_timesDeed_b158 (c0 : Option Nat) (c1 : Int32) (c2 : Int32) (c3 : Int32) (c6 : Int32) (c7 : Int32) (c8 : Int32) (s158 : Int32) : dnM ((Int32) ⊕ (Unit)) :=
  if c6 ≤ s158 then
  (dnP (.inr ()))
  else
  (dnB (dnGR c0 11 10) fun v17 =>
  dnB (dnGR c0 11 18) fun v18 =>
  dnB (dnAI v18 100 c8) fun v19 =>
  dnB (dnCv c0 11 (fX13_product c0 c1 c8 c2 s158)) fun v20 =>
  dnB (dnTL v17 102 ((12 * v19) + s158) v20) fun _ =>
  dnP (.inl (s158 + 1)))
def fX13_timesDeed_b116 (c0 : Option Nat) (c1 : Int32) (c2 : Int32) (c3 : Int32) (c6 : Int32) (c7 : Int32) (s116 : Int32) : dnM ((Int32) ⊕ (Unit)) :=
  if c7 ≤ s116 then
  (dnP (.inr ()))
  else
  (dnB (dnGR c0 11 18) fun v13 =>
  dnB (dnTI v13 100 s116 (-1)) fun _ =>
  dnB (dnCv c0 11 (fX13_isRow c0 c1 s116)) fun v14 =>
  if v14 = true then
  (dnB (dnGR c0 11 18) fun v15 =>
  dnB (dnCv c0 11 (fX13_newRow c0 5 c6)) fun v16 =>
  dnB (dnTI v15 100 s116 v16) fun _ =>
  dnB (dnIt 1000 (fX13_timesDeed_b158 c0 c1 c2 c3 c6 c7 s116) 0) fun q158 =>
  fX13_timesDeed_j199 c0 c1 c2 c3 c6 c7 s116)
  else
  (fX13_timesDeed_j199 c0 c1 c2 c3 c6 c7 s116))
def fX13_timesDeed (r0 : Option Nat) (p1 : Int32) (p2 : Int32) (p3 : Int32) : dnM Int32 :=
  dnB (fX13_isGrid p1) fun v1 =>
  if v1 = true then
  (dnB (fX13_isGrid p2) fun v2 =>
  if v2 = true then
  (dnB (fX13_isGrid p3) fun v3 =>
  if v3 = true then
  (dnB (dnGR r0 11 4) fun v4 =>
  dnB (dnAI v4 100 p1) fun v5 =>
  if v5 < 0 then
  (dnP (-2))
  else
  (dnB (dnGR r0 11 4) fun v6 =>
  dnB (dnAI v6 100 p2) fun v7 =>
  if 0 ≤ v7 then
  (dnB (dnCv r0 11 (fX13_firstUnlike r0 p1 5)) fun v8 =>
  dnB (dnCv r0 11 (fX13_firstUnlike r0 p2 5)) fun v9 =>
  if ¬ v8 = (-9) then
  (fX13_timesDeed_j74 r0 v8 v9)
  else
  (if v9 = (-9) then
  (dnB (dnCv r0 11 (fX13_longest r0 p2)) fun v10 =>
  dnB (dnGR r0 11 4) fun v11 =>
  dnB (dnAI v11 100 p1) fun v12 =>
  dnB (dnIt 1000 (fX13_timesDeed_b116 r0 p1 p2 p3 v10 v12) 0) fun q116 =>
  dnB (dnCv r0 11 (fX13_comes r0 p3 v12)) fun v21 =>
  dnP v21)
  else
  (fX13_timesDeed_j74 r0 v8 v9)))
  else
  (dnP (-2))))
  else
  (dnP (-1)))
  else
  (dnP (-1)))
  else
  (dnP (-1))
abbrev jX13_timesDeed (w : dnWd) (x : dnX) (b : Nat) := dnD w x b (fun _ => True) cX13_timesDeed RX13 10 rmX13_timesDeed "timesDeed" eI
set_option maxHeartbeats 4000000 in
set_option maxRecDepth 100000 in
theorem mX13_timesDeed (w : dnWd) (x : dnX) (b : Nat) (r0 : Option Nat) (p1 : Int32) (p2 : Int32) (p3 : Int32) : dnMt w x b yX13_timesDeed cX13_timesDeed 10 (some .int) rmX13_timesDeed eI [dnV b r0, .int p1, .int p2, .int p3] (fX13_timesDeed r0 p1 p2 p3) := by
  have hlv : lv_args 0 [dnV b r0, .int p1, .int p2, .int p3] = [(0, dnV b r0), (1, .int p1), (2, .int p2), (3, .int p3)] := by cases r0 <;> rfl
  refine dn_mt (by decide +kernel) roI (by cases r0 <;> exact (Nat.le_of_ble_eq_true rfl)) ?_
  rw [hlv]
  refine dn_top ?_
  show jX13_timesDeed w x b 0 0 0 _ [] (dnB _ dnP)
  unfold fX13_timesDeed
  have hj92 : ∀ (s0 : Option Nat) (s1 : Int32), jX13_timesDeed w x b 92 0 0 [] [.int s1, dnV b s0] (dnB (fX13_timesDeed_j92 s0 s1) dnP) := by
    intro s0 s1
    unfold fX13_timesDeed_j92
    refine dn_putI (pc := 92) s0 lRX13_13 dX13_timesDeed_92 ?_
    refine dn_bipush (pc := 95) (v := -7) dX13_timesDeed_95 rfl ?_
    exact dn_ret (Nat.le_of_ble_eq_true rfl) (Nat.le_of_ble_eq_true rfl) rfl dX13_timesDeed_97
  have hj74 : ∀ (l0 : Option Nat) (l4 : Int32) (l5 : Int32), jX13_timesDeed w x b 74 0 0 [(0, dnV b l0), (4, .int l4), (5, .int l5)] [] (dnB (fX13_timesDeed_j74 l0 l4 l5) dnP) := by
    intro l0 l4 l5
    unfold fX13_timesDeed_j74
    refine dn_aload_n (pc := 74) l0 0 dX13_timesDeed_74 rfl ?_
    refine dn_iload (pc := 75) 1 dX13_timesDeed_75 rfl ?_
    refine dn_bipush (pc := 77) (v := -9) dX13_timesDeed_77 rfl ?_
    refine dn_icmp_eq (pc := 79) 87 dX13_timesDeed_79 rfl (fun _ => ?_) (fun _ => ?_)
    · refine dn_bipush (pc := 87) (v := 10) dX13_timesDeed_87 rfl ?_
      refine dn_iload (pc := 89) 2 dX13_timesDeed_89 rfl ?_
      refine dn_iadd (pc := 91) dX13_timesDeed_91 ?_
      exact dn_lv [] rfl (hj92 l0 (10 + l5))
    · refine dn_iload (pc := 82) 1 dX13_timesDeed_82 rfl ?_
      refine dn_goto (pc := 84) 92 dX13_timesDeed_84 rfl ?_
      exact dn_lv [] rfl (hj92 l0 l4)
  refine dn_iload_n (pc := 0) 1 dX13_timesDeed_0 rfl ?_
  refine dn_callS0Z (pc := 1) [.int p1]  kRX13_134 (mX13_isGrid w x b p1) rfl rfl (Nat.le_of_ble_eq_true rfl) ⟨(Nat.le_of_ble_eq_true rfl), (Nat.le_of_ble_eq_true rfl)⟩ ⟨rfl, rfl, (Nat.le_of_ble_eq_true rfl), (Nat.le_of_ble_eq_true rfl)⟩ dX13_timesDeed_1 (fun v1 => ?_)
  refine dn_ifz_eq (pc := 4) 21 dX13_timesDeed_4 rfl (fun _ => ?_) (fun _ => ?_)
  · refine dn_iload_n (pc := 7) 2 dX13_timesDeed_7 rfl ?_
    refine dn_callS0Z (pc := 8) [.int p2]  kRX13_134 (mX13_isGrid w x b p2) rfl rfl (Nat.le_of_ble_eq_true rfl) ⟨(Nat.le_of_ble_eq_true rfl), (Nat.le_of_ble_eq_true rfl)⟩ ⟨rfl, rfl, (Nat.le_of_ble_eq_true rfl), (Nat.le_of_ble_eq_true rfl)⟩ dX13_timesDeed_8 (fun v2 => ?_)
    refine dn_ifz_eq (pc := 11) 21 dX13_timesDeed_11 rfl (fun _ => ?_) (fun _ => ?_)
    · refine dn_iload_n (pc := 14) 3 dX13_timesDeed_14 rfl ?_
      refine dn_callS0Z (pc := 15) [.int p3]  kRX13_134 (mX13_isGrid w x b p3) rfl rfl (Nat.le_of_ble_eq_true rfl) ⟨(Nat.le_of_ble_eq_true rfl), (Nat.le_of_ble_eq_true rfl)⟩ ⟨rfl, rfl, (Nat.le_of_ble_eq_true rfl), (Nat.le_of_ble_eq_true rfl)⟩ dX13_timesDeed_15 (fun v3 => ?_)
      refine dn_ifz_ne (pc := 18) 23 dX13_timesDeed_18 rfl (fun _ => ?_) (fun _ => ?_)
      · refine dn_aload_n (pc := 23) r0 0 dX13_timesDeed_23 rfl ?_
        refine dn_getR (pc := 24) r0 lRX13_17 dX13_timesDeed_24 (fun v4 => ?_)
        refine dn_iload_n (pc := 27) 1 dX13_timesDeed_27 rfl ?_
        refine dn_iald (pc := 28) v4 dX13_timesDeed_28 (fun v5 => ?_)
        refine dn_if_lt (pc := 29) 41 dX13_timesDeed_29 rfl (fun _ => ?_) (fun _ => ?_)
        · refine dn_bipush (pc := 41) (v := -2) dX13_timesDeed_41 rfl ?_
          exact dn_ret (Nat.le_of_ble_eq_true rfl) (Nat.le_of_ble_eq_true rfl) rfl dX13_timesDeed_43
        · refine dn_aload_n (pc := 32) r0 0 dX13_timesDeed_32 rfl ?_
          refine dn_getR (pc := 33) r0 lRX13_17 dX13_timesDeed_33 (fun v6 => ?_)
          refine dn_iload_n (pc := 36) 2 dX13_timesDeed_36 rfl ?_
          refine dn_iald (pc := 37) v6 dX13_timesDeed_37 (fun v7 => ?_)
          refine dn_if_ge (pc := 38) 44 dX13_timesDeed_38 rfl (fun _ => ?_) (fun _ => ?_)
          · refine dn_aload_n (pc := 44) r0 0 dX13_timesDeed_44 rfl ?_
            refine dn_iload_n (pc := 45) 1 dX13_timesDeed_45 rfl ?_
            refine dn_iconst (pc := 46) (v := 5) dX13_timesDeed_46 rfl ?_
            refine dn_callV0I (pc := 47) [.int p1, .int 5] r0 kRX13_360 (mX13_firstUnlike w x b r0 p1 5) rfl rfl (Nat.le_of_ble_eq_true rfl) ⟨(Nat.le_of_ble_eq_true rfl), (Nat.le_of_ble_eq_true rfl)⟩ ⟨rfl, rfl, (Nat.le_of_ble_eq_true rfl), (Nat.le_of_ble_eq_true rfl)⟩ dX13_timesDeed_47 (fun v8 => ?_)
            refine dn_istore (pc := 50) dX13_timesDeed_50 (Nat.le_of_ble_eq_true rfl) (dnKp_nb 3 rfl rfl rfl (dnKp_of (lv2 := [(0, dnV b r0), (1, .int p1), (2, .int p2)]) [0, 1, 2] rfl rfl)) ?_
            refine dn_aload_n (pc := 52) r0 2 dX13_timesDeed_52 rfl ?_
            refine dn_iload_n (pc := 53) 4 dX13_timesDeed_53 rfl ?_
            refine dn_iconst (pc := 54) (v := 5) dX13_timesDeed_54 rfl ?_
            refine dn_callV0I (pc := 55) [.int p2, .int 5] r0 kRX13_360 (mX13_firstUnlike w x b r0 p2 5) rfl rfl (Nat.le_of_ble_eq_true rfl) ⟨(Nat.le_of_ble_eq_true rfl), (Nat.le_of_ble_eq_true rfl)⟩ ⟨rfl, rfl, (Nat.le_of_ble_eq_true rfl), (Nat.le_of_ble_eq_true rfl)⟩ dX13_timesDeed_55 (fun v9 => ?_)
            refine dn_istore (pc := 58) dX13_timesDeed_58 (Nat.le_of_ble_eq_true rfl) (dnKp_nb 0 rfl rfl rfl (dnKp_of (lv2 := [(3, .int p3), (0, dnV b r0), (1, .int p1), (2, .int p2)]) [1, 2, 3, 4] rfl rfl)) ?_
            refine dn_iload (pc := 60) 1 dX13_timesDeed_60 rfl ?_
            refine dn_bipush (pc := 62) (v := -9) dX13_timesDeed_62 rfl ?_
            refine dn_icmp_ne (pc := 64) 74 dX13_timesDeed_64 rfl (fun _ => ?_) (fun _ => ?_)
            · exact dn_lv [3, 1, 0] rfl (hj74 r0 v8 v9)
            · refine dn_iload (pc := 67) 0 dX13_timesDeed_67 rfl ?_
              refine dn_bipush (pc := 69) (v := -9) dX13_timesDeed_69 rfl ?_
              refine dn_icmp_eq (pc := 71) 98 dX13_timesDeed_71 rfl (fun _ => ?_) (fun _ => ?_)
              · refine dn_aload_n (pc := 98) r0 3 dX13_timesDeed_98 rfl ?_
                refine dn_iload_n (pc := 99) 5 dX13_timesDeed_99 rfl ?_
                refine dn_callV0I (pc := 100) [.int p2] r0 kRX13_351 (mX13_longest w x b r0 p2) rfl rfl (Nat.le_of_ble_eq_true rfl) ⟨(Nat.le_of_ble_eq_true rfl), (Nat.le_of_ble_eq_true rfl)⟩ ⟨rfl, rfl, (Nat.le_of_ble_eq_true rfl), (Nat.le_of_ble_eq_true rfl)⟩ dX13_timesDeed_100 (fun v10 => ?_)
                refine dn_istore (pc := 103) dX13_timesDeed_103 (Nat.le_of_ble_eq_true rfl) (dnKp_of (lv2 := [(3, .int p3), (0, dnV b r0), (1, .int p1), (2, .int p2)]) [2, 3, 4, 5] rfl rfl) ?_
                refine dn_aload_n (pc := 105) r0 2 dX13_timesDeed_105 rfl ?_
                refine dn_getR (pc := 106) r0 lRX13_17 dX13_timesDeed_106 (fun v11 => ?_)
                refine dn_iload_n (pc := 109) 3 dX13_timesDeed_109 rfl ?_
                refine dn_iald (pc := 110) v11 dX13_timesDeed_110 (fun v12 => ?_)
                refine dn_istore (pc := 111) dX13_timesDeed_111 (Nat.le_of_ble_eq_true rfl) (dnKp_nb 0 rfl rfl rfl (dnKp_of (lv2 := [(3, .int p3), (0, dnV b r0), (1, .int p1), (2, .int p2)]) [1, 2, 3, 4] rfl rfl)) ?_
                refine dn_iconst (pc := 113) (v := 0) dX13_timesDeed_113 rfl ?_
                refine dn_istore (pc := 114) dX13_timesDeed_114 (Nat.le_of_ble_eq_true rfl) (dnKp_nb 0 rfl rfl rfl (dnKp_of (lv2 := [(6, .int v10), (3, .int p3), (0, dnV b r0), (1, .int p1), (2, .int p2)]) [1, 2, 3, 4, 5] rfl rfl)) ?_
                refine dn_assoc ?_
                refine dn_lv [4, 5, 6, 3, 2, 1, 0] (lv2 := (fun s => [(0, dnV b r0), (1, .int p1), (2, .int p2), (3, .int p3), (6, .int v10), (7, .int v12), (8, .int s)]) 0) rfl ?_
                refine dn_loopE (pc := 116) (body := fX13_timesDeed_b116 r0 p1 p2 p3 v10 v12) 205 (fun s => [(0, dnV b r0), (1, .int p1), (2, .int p2), (3, .int p3), (6, .int v10), (7, .int v12), (8, .int s)]) (fun q => [(0, dnV b r0), (3, .int p3), (7, .int v12)]) (fun s116 K116 E116 hK116 hE116 => ?_) (fun q116 => ?_) 1000 0
                · unfold fX13_timesDeed_b116
                  have hj199 : ∀ (l8 : Int32), jX13_timesDeed w x b 199 0 0 [(0, dnV b r0), (1, .int p1), (2, .int p2), (3, .int p3), (6, .int v10), (7, .int v12), (8, .int l8)] [] (dnB (fX13_timesDeed_j199 r0 p1 p2 p3 v10 v12 l8) (dnKo K116 E116)) := by
                    intro l8
                    unfold fX13_timesDeed_j199
                    refine dn_iinc (pc := 199) (l8 + 1) 6 dX13_timesDeed_199 rfl rfl (Nat.le_of_ble_eq_true rfl) (dnKp_nb 5 rfl rfl rfl (dnKp_of (lv2 := [(0, dnV b r0), (1, .int p1), (2, .int p2), (3, .int p3), (6, .int v10)]) [0, 1, 2, 3, 4] rfl rfl)) ?_
                    refine dn_goto (pc := 202) 116 dX13_timesDeed_202 rfl ?_
                    refine dn_leaf ?_
                    exact dn_lv [2, 3, 4, 5, 6, 1, 0] rfl (hK116 (l8 + 1))
                  refine dn_iload (pc := 116) 6 dX13_timesDeed_116 rfl ?_
                  refine dn_iload (pc := 118) 5 dX13_timesDeed_118 rfl ?_
                  refine dn_icmp_ge (pc := 120) 205 dX13_timesDeed_120 rfl (fun _ => ?_) (fun _ => ?_)
                  · refine dn_leaf ?_
                    exact dn_lv [0, 3, 5] rfl (hE116 ())
                  · refine dn_aload_n (pc := 123) r0 0 dX13_timesDeed_123 rfl ?_
                    refine dn_getR (pc := 124) r0 lRX13_52 dX13_timesDeed_124 (fun v13 => ?_)
                    refine dn_iload (pc := 127) 6 dX13_timesDeed_127 rfl ?_
                    refine dn_iconst (pc := 129) (v := -1) dX13_timesDeed_129 rfl ?_
                    refine dn_iast (pc := 130) v13 dX13_timesDeed_130 ?_
                    refine dn_aload_n (pc := 131) r0 0 dX13_timesDeed_131 rfl ?_
                    refine dn_iload_n (pc := 132) 1 dX13_timesDeed_132 rfl ?_
                    refine dn_iload (pc := 133) 6 dX13_timesDeed_133 rfl ?_
                    refine dn_callV0Z (pc := 135) [.int p1, .int s116] r0 kRX13_336 (mX13_isRow w x b r0 p1 s116) rfl rfl (Nat.le_of_ble_eq_true rfl) ⟨(Nat.le_of_ble_eq_true rfl), (Nat.le_of_ble_eq_true rfl)⟩ ⟨rfl, rfl, (Nat.le_of_ble_eq_true rfl), (Nat.le_of_ble_eq_true rfl)⟩ dX13_timesDeed_135 (fun v14 => ?_)
                    refine dn_ifz_eq (pc := 138) 199 dX13_timesDeed_138 rfl (fun _ => ?_) (fun _ => ?_)
                    · refine dn_aload_n (pc := 141) r0 0 dX13_timesDeed_141 rfl ?_
                      refine dn_getR (pc := 142) r0 lRX13_52 dX13_timesDeed_142 (fun v15 => ?_)
                      refine dn_iload (pc := 145) 6 dX13_timesDeed_145 rfl ?_
                      refine dn_aload_n (pc := 147) r0 0 dX13_timesDeed_147 rfl ?_
                      refine dn_iconst (pc := 148) (v := 5) dX13_timesDeed_148 rfl ?_
                      refine dn_iload (pc := 149) 4 dX13_timesDeed_149 rfl ?_
                      refine dn_callV0I (pc := 151) [.int 5, .int v10] r0 kRX13_155 (mX13_newRow w x b r0 5 v10) rfl rfl (Nat.le_of_ble_eq_true rfl) ⟨(Nat.le_of_ble_eq_true rfl), (Nat.le_of_ble_eq_true rfl)⟩ ⟨rfl, rfl, (Nat.le_of_ble_eq_true rfl), (Nat.le_of_ble_eq_true rfl)⟩ dX13_timesDeed_151 (fun v16 => ?_)
                      refine dn_iast (pc := 154) v15 dX13_timesDeed_154 ?_
                      refine dn_iconst (pc := 155) (v := 0) dX13_timesDeed_155 rfl ?_
                      refine dn_istore (pc := 156) dX13_timesDeed_156 (Nat.le_of_ble_eq_true rfl) (dnKp_nb 6 rfl rfl rfl (dnKp_of (lv2 := [(0, dnV b r0), (1, .int p1), (2, .int p2), (3, .int p3), (6, .int v10), (7, .int v12)]) [0, 1, 2, 3, 4, 5] rfl rfl)) ?_
                      refine dn_assoc ?_
                      refine dn_lv [2, 3, 4, 5, 6, 7, 1, 0] (lv2 := (fun s => [(0, dnV b r0), (1, .int p1), (2, .int p2), (3, .int p3), (6, .int v10), (7, .int v12), (8, .int s116), (9, .int s)]) 0) rfl ?_
                      refine dn_loopE (pc := 158) (body := fX13_timesDeed_b158 r0 p1 p2 p3 v10 v12 s116) 199 (fun s => [(0, dnV b r0), (1, .int p1), (2, .int p2), (3, .int p3), (6, .int v10), (7, .int v12), (8, .int s116), (9, .int s)]) (fun q => [(0, dnV b r0), (1, .int p1), (2, .int p2), (3, .int p3), (6, .int v10), (7, .int v12), (8, .int s116)]) (fun s158 K158 E158 hK158 hE158 => ?_) (fun q158 => ?_) 1000 0
                      · unfold fX13_timesDeed_b158
                        refine dn_iload (pc := 158) 7 dX13_timesDeed_158 rfl ?_
                        refine dn_iload (pc := 160) 4 dX13_timesDeed_160 rfl ?_
                        refine dn_icmp_ge (pc := 162) 199 dX13_timesDeed_162 rfl (fun _ => ?_) (fun _ => ?_)
                        · refine dn_leaf ?_
                          exact dn_lv [0, 1, 2, 3, 4, 5, 6] rfl (hE158 ())
                        · refine dn_aload_n (pc := 165) r0 0 dX13_timesDeed_165 rfl ?_
                          refine dn_getR (pc := 166) r0 lRX13_35 dX13_timesDeed_166 (fun v17 => ?_)
                          refine dn_bipush (pc := 169) (v := 12) dX13_timesDeed_169 rfl ?_
                          refine dn_aload_n (pc := 171) r0 0 dX13_timesDeed_171 rfl ?_
                          refine dn_getR (pc := 172) r0 lRX13_52 dX13_timesDeed_172 (fun v18 => ?_)
                          refine dn_iload (pc := 175) 6 dX13_timesDeed_175 rfl ?_
                          refine dn_iald (pc := 177) v18 dX13_timesDeed_177 (fun v19 => ?_)
                          refine dn_imul (pc := 178) dX13_timesDeed_178 ?_
                          refine dn_iload (pc := 179) 7 dX13_timesDeed_179 rfl ?_
                          refine dn_iadd (pc := 181) dX13_timesDeed_181 ?_
                          refine dn_aload_n (pc := 182) r0 0 dX13_timesDeed_182 rfl ?_
                          refine dn_iload_n (pc := 183) 1 dX13_timesDeed_183 rfl ?_
                          refine dn_iload (pc := 184) 6 dX13_timesDeed_184 rfl ?_
                          refine dn_iload_n (pc := 186) 2 dX13_timesDeed_186 rfl ?_
                          refine dn_iload (pc := 187) 7 dX13_timesDeed_187 rfl ?_
                          refine dn_callV0L (pc := 189) [.int p1, .int s116, .int p2, .int s158] r0 kRX13_363 (mX13_product w x b r0 p1 s116 p2 s158) rfl rfl (Nat.le_of_ble_eq_true rfl) ⟨(Nat.le_of_ble_eq_true rfl), (Nat.le_of_ble_eq_true rfl)⟩ ⟨rfl, rfl, (Nat.le_of_ble_eq_true rfl), (Nat.le_of_ble_eq_true rfl)⟩ dX13_timesDeed_189 (fun v20 => ?_)
                          refine dn_last (pc := 192) v17 dX13_timesDeed_192 ?_
                          refine dn_iinc (pc := 193) (s158 + 1) 7 dX13_timesDeed_193 rfl rfl (Nat.le_of_ble_eq_true rfl) (dnKp_nb 6 rfl rfl rfl (dnKp_of (lv2 := [(0, dnV b r0), (1, .int p1), (2, .int p2), (3, .int p3), (6, .int v10), (7, .int v12)]) [0, 1, 2, 3, 4, 5] rfl rfl)) ?_
                          refine dn_goto (pc := 196) 158 dX13_timesDeed_196 rfl ?_
                          refine dn_leaf ?_
                          exact dn_lv [2, 3, 4, 5, 6, 7, 1, 0] rfl (hK158 (s158 + 1))
                      · exact dn_lv [0, 1, 2, 3, 4, 5, 6] rfl (hj199 s116)
                    · exact dn_lv [0, 1, 2, 3, 4, 5, 6] rfl (hj199 s116)
                · refine dn_aload_n (pc := 205) r0 0 dX13_timesDeed_205 rfl ?_
                  refine dn_iload_n (pc := 206) 1 dX13_timesDeed_206 rfl ?_
                  refine dn_iload (pc := 207) 2 dX13_timesDeed_207 rfl ?_
                  refine dn_callV0I (pc := 209) [.int p3, .int v12] r0 kRX13_342 (mX13_comes w x b r0 p3 v12) rfl rfl (Nat.le_of_ble_eq_true rfl) ⟨(Nat.le_of_ble_eq_true rfl), (Nat.le_of_ble_eq_true rfl)⟩ ⟨rfl, rfl, (Nat.le_of_ble_eq_true rfl), (Nat.le_of_ble_eq_true rfl)⟩ dX13_timesDeed_209 (fun v21 => ?_)
                  exact dn_ret (Nat.le_of_ble_eq_true rfl) (Nat.le_of_ble_eq_true rfl) rfl dX13_timesDeed_212
              · exact dn_lv [3, 1, 0] rfl (hj74 r0 v8 v9)
          · refine dn_bipush (pc := 41) (v := -2) dX13_timesDeed_41 rfl ?_
            exact dn_ret (Nat.le_of_ble_eq_true rfl) (Nat.le_of_ble_eq_true rfl) rfl dX13_timesDeed_43
      · refine dn_iconst (pc := 21) (v := -1) dX13_timesDeed_21 rfl ?_
        exact dn_ret (Nat.le_of_ble_eq_true rfl) (Nat.le_of_ble_eq_true rfl) rfl dX13_timesDeed_22
    · refine dn_iconst (pc := 21) (v := -1) dX13_timesDeed_21 rfl ?_
      exact dn_ret (Nat.le_of_ble_eq_true rfl) (Nat.le_of_ble_eq_true rfl) rfl dX13_timesDeed_22
  · refine dn_iconst (pc := 21) (v := -1) dX13_timesDeed_21 rfl ?_
    exact dn_ret (Nat.le_of_ble_eq_true rfl) (Nat.le_of_ble_eq_true rfl) rfl dX13_timesDeed_22
abbrev rmX13_times : Room := { frames := 5, cells := 0, slots := 0, locals := 124 }
def fX13_times (r0 : Option Nat) (p1 : Int32) (p2 : Int32) (p3 : Int32) : dnM Int32 :=
  dnB (dnCv r0 11 (fX13_timesDeed r0 p1 p2 p3)) fun v1 =>
  dnB (dnCv r0 11 (fX13_said r0 v1)) fun v2 =>
  dnP v2
abbrev jX13_times (w : dnWd) (x : dnX) (b : Nat) := dnD w x b (fun _ => True) cX13_times RX13 4 rmX13_times "times" eI
set_option maxHeartbeats 4000000 in
set_option maxRecDepth 100000 in
theorem mX13_times (w : dnWd) (x : dnX) (b : Nat) (r0 : Option Nat) (p1 : Int32) (p2 : Int32) (p3 : Int32) : dnMt w x b yX13_times cX13_times 4 (some .int) rmX13_times eI [dnV b r0, .int p1, .int p2, .int p3] (fX13_times r0 p1 p2 p3) := by
  have hlv : lv_args 0 [dnV b r0, .int p1, .int p2, .int p3] = [(0, dnV b r0), (1, .int p1), (2, .int p2), (3, .int p3)] := by cases r0 <;> rfl
  refine dn_mt (by decide +kernel) roI (by cases r0 <;> exact (Nat.le_of_ble_eq_true rfl)) ?_
  rw [hlv]
  refine dn_top ?_
  show jX13_times w x b 0 0 0 _ [] (dnB _ dnP)
  unfold fX13_times
  refine dn_aload_n (pc := 0) r0 0 dX13_times_0 rfl ?_
  refine dn_aload_n (pc := 1) r0 0 dX13_times_1 rfl ?_
  refine dn_iload_n (pc := 2) 1 dX13_times_2 rfl ?_
  refine dn_iload_n (pc := 3) 2 dX13_times_3 rfl ?_
  refine dn_iload_n (pc := 4) 3 dX13_times_4 rfl ?_
  refine dn_callV0I (pc := 5) [.int p1, .int p2, .int p3] r0 kRX13_367 (mX13_timesDeed w x b r0 p1 p2 p3) rfl rfl (Nat.le_of_ble_eq_true rfl) ⟨(Nat.le_of_ble_eq_true rfl), (Nat.le_of_ble_eq_true rfl)⟩ ⟨rfl, rfl, (Nat.le_of_ble_eq_true rfl), (Nat.le_of_ble_eq_true rfl)⟩ dX13_times_5 (fun v1 => ?_)
  refine dn_callV0I (pc := 8) [.int v1] r0 kRX13_137 (mX13_said w x b r0 v1) rfl rfl (Nat.le_of_ble_eq_true rfl) ⟨(Nat.le_of_ble_eq_true rfl), (Nat.le_of_ble_eq_true rfl)⟩ ⟨rfl, rfl, (Nat.le_of_ble_eq_true rfl), (Nat.le_of_ble_eq_true rfl)⟩ dX13_times_8 (fun v2 => ?_)
  exact dn_ret (Nat.le_of_ble_eq_true rfl) (Nat.le_of_ble_eq_true rfl) rfl dX13_times_11
abbrev rmX13_told : Room := { frames := 0, cells := 0, slots := 0, locals := 0 }
def fX13_told (r0 : Option Nat) : dnM Int64 :=
  dnB (dnGL r0 11 1) fun v1 =>
  dnP v1
abbrev jX13_told (w : dnWd) (x : dnX) (b : Nat) := dnD w x b (fun _ => True) cX13_told RX13 1 rmX13_told "told" eL
set_option maxHeartbeats 4000000 in
set_option maxRecDepth 100000 in
theorem mX13_told (w : dnWd) (x : dnX) (b : Nat) (r0 : Option Nat) : dnMt w x b yX13_told cX13_told 1 (some .long) rmX13_told eL [dnV b r0] (fX13_told r0) := by
  have hlv : lv_args 0 [dnV b r0] = [(0, dnV b r0)] := by cases r0 <;> rfl
  refine dn_mt (by decide +kernel) roL (by cases r0 <;> exact (Nat.le_of_ble_eq_true rfl)) ?_
  rw [hlv]
  refine dn_top ?_
  show jX13_told w x b 0 0 0 _ [] (dnB _ dnP)
  unfold fX13_told
  refine dn_aload_n (pc := 0) r0 0 dX13_told_0 rfl ?_
  refine dn_getL (pc := 1) r0 lRX13_116 dX13_told_1 (fun v1 => ?_)
  exact dn_ret (Nat.le_of_ble_eq_true rfl) (Nat.le_of_ble_eq_true rfl) rfl dX13_told_4
abbrev rmX13_trails : Room := { frames := 1, cells := 0, slots := 0, locals := 22 }
def fX13_trails_j141 (l0 : Option Nat) (l1 : Int32) (l2 : Bool) (l3 : Int32) : dnM ((Int32) ⊕ (Unit)) :=
  dnP (.inl (l3 + 1))
def fX13_trails_j135 (l0 : Option Nat) (l1 : Int32) (l2 : Bool) (l3 : Int32) (l4 : Int32) : dnM ((Int32) ⊕ (Unit)) :=
  dnP (.inl (l4 + 1))
def fX13_trails_j115 (l0 : Option Nat) (l1 : Int32) (l2 : Bool) (l3 : Int32) (l4 : Int32) : dnM ((Int32) ⊕ (Unit)) :=
  dnB (dnGR l0 11 25) fun v2 =>
  dnB (dnTI v2 100 l3 1) fun _ =>
  dnB (dnGR l0 11 24) fun v3 =>
  dnB (dnGR l0 11 22) fun v4 =>
  dnB (dnAL v4 102 l4) fun v5 =>
  dnB (dnTL v3 102 l3 v5) fun _ =>
  fX13_trails_j135 l0 l1 l2 l3 l4
def fX13_trails_b45 (c0 : Option Nat) (c1 : Int32) (c2 : Bool) (c3 : Int32) (s45 : Int32) : dnM ((Int32) ⊕ (Unit)) :=
  if (c3 + 1) < s45 then
  (dnP (.inr ()))
  else
  (if c2 = true then
  (dnP (.inr ()))
  else
  (dnB (dnGR c0 11 7) fun v6 =>
  dnB (dnAI v6 100 c1) fun v7 =>
  if v7 ≤ c3 then
  (fX13_trails_j135 c0 c1 c2 c3 s45)
  else
  (dnB (fX13_in s45 0 11) fun v8 =>
  if v8 = true then
  (dnB (dnGR c0 11 23) fun v9 =>
  dnB (dnAI v9 100 s45) fun v10 =>
  if ¬ v10 = 1 then
  (fX13_trails_j135 c0 c1 c2 c3 s45)
  else
  (dnB (dnGR c0 11 25) fun v11 =>
  dnB (dnAI v11 100 c3) fun v12 =>
  if v12 = 0 then
  (fX13_trails_j115 c0 c1 c2 c3 s45)
  else
  (dnB (dnGR c0 11 22) fun v13 =>
  dnB (dnAL v13 102 s45) fun v14 =>
  dnB (dnGR c0 11 24) fun v15 =>
  dnB (dnAL v15 102 c3) fun v16 =>
  if (lg_cmp v14 v16) ≤ 0 then
  (fX13_trails_j135 c0 c1 c2 c3 s45)
  else
  (fX13_trails_j115 c0 c1 c2 c3 s45))))
  else
  (fX13_trails_j135 c0 c1 c2 c3 s45))))
def fX13_trails_j32 (l0 : Option Nat) (l1 : Int32) (l2 : Bool) (l3 : Int32) (s0 : Option Nat) (s1 : Int32) (s2 : Bool) : dnM ((Int32) ⊕ (Unit)) :=
  dnB (dnTI s0 100 s1 (dnZ s2)) fun _ =>
  dnB (dnGR l0 11 24) fun v1 =>
  dnB (dnTL v1 102 l3 0) fun _ =>
  dnB (dnIt 1000 (fX13_trails_b45 l0 l1 l2 l3) (l3 - 1)) fun q45 =>
  fX13_trails_j141 l0 l1 l2 l3
def fX13_trails_j31 (l0 : Option Nat) (l1 : Int32) (l2 : Bool) (l3 : Int32) (s0 : Option Nat) (s1 : Int32) : dnM ((Int32) ⊕ (Unit)) :=
  fX13_trails_j32 l0 l1 l2 l3 s0 s1 false
def fX13_trails_b2 (c0 : Option Nat) (c1 : Int32) (c2 : Bool) (s2 : Int32) : dnM ((Int32) ⊕ (Unit)) :=
  if 12 ≤ s2 then
  (dnP (.inr ()))
  else
  (dnB (dnGR c0 11 25) fun v17 =>
  if c2 = true then
  (dnB (dnGR c0 11 7) fun v18 =>
  dnB (dnAI v18 100 c1) fun v19 =>
  if v19 ≤ s2 then
  (fX13_trails_j31 c0 c1 c2 s2 v17 s2)
  else
  (fX13_trails_j32 c0 c1 c2 s2 v17 s2 true))
  else
  (fX13_trails_j31 c0 c1 c2 s2 v17 s2))
def fX13_trails_j204 (l0 : Option Nat) (l1 : Int32) (l3 : Int32) (s0 : Option Nat) (s1 : Int32) (s2 : Int64) : dnM ((Int32) ⊕ (Unit)) :=
  dnB (dnTL s0 102 s1 s2) fun _ =>
  dnP (.inl (l3 + 1))
def fX13_trails_b149 (c0 : Option Nat) (c1 : Int32) (s149 : Int32) : dnM ((Int32) ⊕ (Unit)) :=
  if 12 ≤ s149 then
  (dnP (.inr ()))
  else
  (dnB (dnGR c0 11 23) fun v20 =>
  dnB (dnGR c0 11 25) fun v21 =>
  dnB (dnAI v21 100 s149) fun v22 =>
  dnB (dnTI v20 100 s149 v22) fun _ =>
  dnB (dnGR c0 11 22) fun v23 =>
  dnB (dnGR c0 11 25) fun v24 =>
  dnB (dnAI v24 100 s149) fun v25 =>
  if ¬ v25 = 1 then
  (fX13_trails_j204 c0 c1 s149 v23 s149 0)
  else
  (dnB (dnGR c0 11 24) fun v26 =>
  dnB (dnAL v26 102 s149) fun v27 =>
  dnB (dnGR c0 11 10) fun v28 =>
  dnB (dnAL v28 102 ((12 * c1) + s149)) fun v29 =>
  fX13_trails_j204 c0 c1 s149 v23 s149 (v27 + v29)))
def fX13_trails (r0 : Option Nat) (p1 : Int32) (p2 : Bool) : dnM Unit :=
  dnB (dnIt 1000 (fX13_trails_b2 r0 p1 p2) 0) fun q2 =>
  dnB (dnIt 1000 (fX13_trails_b149 r0 p1) 0) fun q149 =>
  dnP ()
abbrev jX13_trails (w : dnWd) (x : dnX) (b : Nat) := dnD w x b (fun _ => True) cX13_trails RX13 5 rmX13_trails "trails" eU
set_option maxHeartbeats 4000000 in
set_option maxRecDepth 100000 in
theorem mX13_trails (w : dnWd) (x : dnX) (b : Nat) (r0 : Option Nat) (p1 : Int32) (p2 : Bool) : dnMt w x b yX13_trails cX13_trails 5 none rmX13_trails eU [dnV b r0, .int p1, .int (dnZ p2)] (fX13_trails r0 p1 p2) := by
  have hlv : lv_args 0 [dnV b r0, .int p1, .int (dnZ p2)] = [(0, dnV b r0), (1, .int p1), (2, .int (dnZ p2))] := by cases r0 <;> rfl
  refine dn_mt (by decide +kernel) roU (by cases r0 <;> exact (Nat.le_of_ble_eq_true rfl)) ?_
  rw [hlv]
  refine dn_top ?_
  show jX13_trails w x b 0 0 0 _ [] (dnB _ dnP)
  unfold fX13_trails
  refine dn_iconst (pc := 0) (v := 0) dX13_trails_0 rfl ?_
  refine dn_istore_n (pc := 1) dX13_trails_1 (Nat.le_of_ble_eq_true rfl) (dnKp_nb 2 rfl rfl rfl (dnKp_of (lv2 := [(0, dnV b r0), (1, .int p1)]) [0, 1] rfl rfl)) ?_
  refine dn_assoc ?_
  refine dn_lv [2, 3, 1, 0] (lv2 := (fun s => [(0, dnV b r0), (1, .int p1), (2, .int (dnZ p2)), (3, .int s)]) 0) rfl ?_
  refine dn_loopE (pc := 2) (body := fX13_trails_b2 r0 p1 p2) 147 (fun s => [(0, dnV b r0), (1, .int p1), (2, .int (dnZ p2)), (3, .int s)]) (fun q => [(0, dnV b r0), (1, .int p1)]) (fun s2 K2 E2 hK2 hE2 => ?_) (fun q2 => ?_) 1000 0
  · unfold fX13_trails_b2
    have hj141 : ∀ (l3 : Int32), jX13_trails w x b 141 0 0 [(0, dnV b r0), (1, .int p1), (2, .int (dnZ p2)), (3, .int l3)] [] (dnB (fX13_trails_j141 r0 p1 p2 l3) (dnKo K2 E2)) := by
      intro l3
      unfold fX13_trails_j141
      refine dn_iinc (pc := 141) (l3 + 1) 3 dX13_trails_141 rfl rfl (Nat.le_of_ble_eq_true rfl) (dnKp_nb 2 rfl rfl rfl (dnKp_of (lv2 := [(0, dnV b r0), (1, .int p1)]) [0, 1] rfl rfl)) ?_
      refine dn_goto (pc := 144) 2 dX13_trails_144 rfl ?_
      refine dn_leaf ?_
      exact dn_lv [2, 3, 1, 0] rfl (hK2 (l3 + 1))
    have hj32 : ∀ (l3 : Int32) (s0 : Option Nat) (s1 : Int32) (s2 : Bool), jX13_trails w x b 32 0 0 [(0, dnV b r0), (1, .int p1), (2, .int (dnZ p2)), (3, .int l3)] [.int (dnZ s2), .int s1, dnV b s0] (dnB (fX13_trails_j32 r0 p1 p2 l3 s0 s1 s2) (dnKo K2 E2)) := by
      intro l3 s0 s1 s2
      unfold fX13_trails_j32
      refine dn_iast (pc := 32) s0 dX13_trails_32 ?_
      refine dn_aload_n (pc := 33) r0 0 dX13_trails_33 rfl ?_
      refine dn_getR (pc := 34) r0 lRX13_61 dX13_trails_34 (fun v1 => ?_)
      refine dn_iload_n (pc := 37) 3 dX13_trails_37 rfl ?_
      refine dn_lconst (pc := 38) (v := 0) dX13_trails_38 rfl ?_
      refine dn_last (pc := 39) v1 dX13_trails_39 ?_
      refine dn_iload_n (pc := 40) 3 dX13_trails_40 rfl ?_
      refine dn_iconst (pc := 41) (v := 1) dX13_trails_41 rfl ?_
      refine dn_isub (pc := 42) dX13_trails_42 ?_
      refine dn_istore (pc := 43) dX13_trails_43 (Nat.le_of_ble_eq_true rfl) (dnKp_nb 3 rfl rfl rfl (dnKp_of (lv2 := [(0, dnV b r0), (1, .int p1), (2, .int (dnZ p2))]) [0, 1, 2] rfl rfl)) ?_
      refine dn_assoc ?_
      refine dn_lv [2, 3, 4, 1, 0] (lv2 := (fun s => [(0, dnV b r0), (1, .int p1), (2, .int (dnZ p2)), (3, .int l3), (4, .int s)]) (l3 - 1)) rfl ?_
      refine dn_loopE (pc := 45) (body := fX13_trails_b45 r0 p1 p2 l3) 141 (fun s => [(0, dnV b r0), (1, .int p1), (2, .int (dnZ p2)), (3, .int l3), (4, .int s)]) (fun q => [(0, dnV b r0), (1, .int p1), (2, .int (dnZ p2)), (3, .int l3)]) (fun s45 K45 E45 hK45 hE45 => ?_) (fun q45 => ?_) 1000 (l3 - 1)
      · unfold fX13_trails_b45
        have hj135 : ∀ (l4 : Int32), jX13_trails w x b 135 0 0 [(0, dnV b r0), (1, .int p1), (2, .int (dnZ p2)), (3, .int l3), (4, .int l4)] [] (dnB (fX13_trails_j135 r0 p1 p2 l3 l4) (dnKo K45 E45)) := by
          intro l4
          unfold fX13_trails_j135
          refine dn_iinc (pc := 135) (l4 + 1) 4 dX13_trails_135 rfl rfl (Nat.le_of_ble_eq_true rfl) (dnKp_nb 3 rfl rfl rfl (dnKp_of (lv2 := [(0, dnV b r0), (1, .int p1), (2, .int (dnZ p2))]) [0, 1, 2] rfl rfl)) ?_
          refine dn_goto (pc := 138) 45 dX13_trails_138 rfl ?_
          refine dn_leaf ?_
          exact dn_lv [2, 3, 4, 1, 0] rfl (hK45 (l4 + 1))
        have hj115 : ∀ (l4 : Int32), jX13_trails w x b 115 0 0 [(0, dnV b r0), (1, .int p1), (2, .int (dnZ p2)), (3, .int l3), (4, .int l4)] [] (dnB (fX13_trails_j115 r0 p1 p2 l3 l4) (dnKo K45 E45)) := by
          intro l4
          unfold fX13_trails_j115
          refine dn_aload_n (pc := 115) r0 0 dX13_trails_115 rfl ?_
          refine dn_getR (pc := 116) r0 lRX13_64 dX13_trails_116 (fun v2 => ?_)
          refine dn_iload_n (pc := 119) 3 dX13_trails_119 rfl ?_
          refine dn_iconst (pc := 120) (v := 1) dX13_trails_120 rfl ?_
          refine dn_iast (pc := 121) v2 dX13_trails_121 ?_
          refine dn_aload_n (pc := 122) r0 0 dX13_trails_122 rfl ?_
          refine dn_getR (pc := 123) r0 lRX13_61 dX13_trails_123 (fun v3 => ?_)
          refine dn_iload_n (pc := 126) 3 dX13_trails_126 rfl ?_
          refine dn_aload_n (pc := 127) r0 0 dX13_trails_127 rfl ?_
          refine dn_getR (pc := 128) r0 lRX13_55 dX13_trails_128 (fun v4 => ?_)
          refine dn_iload (pc := 131) 4 dX13_trails_131 rfl ?_
          refine dn_lald (pc := 133) v4 dX13_trails_133 (fun v5 => ?_)
          refine dn_last (pc := 134) v3 dX13_trails_134 ?_
          exact dn_lv [0, 1, 2, 3, 4] rfl (hj135 l4)
        refine dn_iload (pc := 45) 4 dX13_trails_45 rfl ?_
        refine dn_iload_n (pc := 47) 3 dX13_trails_47 rfl ?_
        refine dn_iconst (pc := 48) (v := 1) dX13_trails_48 rfl ?_
        refine dn_iadd (pc := 49) dX13_trails_49 ?_
        refine dn_icmp_gt (pc := 50) 141 dX13_trails_50 rfl (fun _ => ?_) (fun _ => ?_)
        · refine dn_leaf ?_
          exact dn_lv [0, 1, 2, 3] rfl (hE45 ())
        · refine dn_iload_n (pc := 53) 2 dX13_trails_53 rfl ?_
          refine dn_ifz_ne (pc := 54) 141 dX13_trails_54 rfl (fun _ => ?_) (fun _ => ?_)
          · refine dn_leaf ?_
            exact dn_lv [0, 1, 2, 3] rfl (hE45 ())
          · refine dn_iload_n (pc := 57) 3 dX13_trails_57 rfl ?_
            refine dn_aload_n (pc := 58) r0 0 dX13_trails_58 rfl ?_
            refine dn_getR (pc := 59) r0 lRX13_26 dX13_trails_59 (fun v6 => ?_)
            refine dn_iload_n (pc := 62) 1 dX13_trails_62 rfl ?_
            refine dn_iald (pc := 63) v6 dX13_trails_63 (fun v7 => ?_)
            refine dn_icmp_ge (pc := 64) 135 dX13_trails_64 rfl (fun _ => ?_) (fun _ => ?_)
            · exact dn_lv [0, 1, 2, 3, 4] rfl (hj135 s45)
            · refine dn_iload (pc := 67) 4 dX13_trails_67 rfl ?_
              refine dn_iconst (pc := 69) (v := 0) dX13_trails_69 rfl ?_
              refine dn_bipush (pc := 70) (v := 11) dX13_trails_70 rfl ?_
              refine dn_callS0Z (pc := 72) [.int s45, .int 0, .int 11]  kRX13_109 (mX13_in w x b s45 0 11) rfl rfl (Nat.le_of_ble_eq_true rfl) ⟨(Nat.le_of_ble_eq_true rfl), (Nat.le_of_ble_eq_true rfl)⟩ ⟨rfl, rfl, (Nat.le_of_ble_eq_true rfl), (Nat.le_of_ble_eq_true rfl)⟩ dX13_trails_72 (fun v8 => ?_)
              refine dn_ifz_eq (pc := 75) 135 dX13_trails_75 rfl (fun _ => ?_) (fun _ => ?_)
              · refine dn_aload_n (pc := 78) r0 0 dX13_trails_78 rfl ?_
                refine dn_getR (pc := 79) r0 lRX13_58 dX13_trails_79 (fun v9 => ?_)
                refine dn_iload (pc := 82) 4 dX13_trails_82 rfl ?_
                refine dn_iald (pc := 84) v9 dX13_trails_84 (fun v10 => ?_)
                refine dn_iconst (pc := 85) (v := 1) dX13_trails_85 rfl ?_
                refine dn_icmp_ne (pc := 86) 135 dX13_trails_86 rfl (fun _ => ?_) (fun _ => ?_)
                · exact dn_lv [0, 1, 2, 3, 4] rfl (hj135 s45)
                · refine dn_aload_n (pc := 89) r0 0 dX13_trails_89 rfl ?_
                  refine dn_getR (pc := 90) r0 lRX13_64 dX13_trails_90 (fun v11 => ?_)
                  refine dn_iload_n (pc := 93) 3 dX13_trails_93 rfl ?_
                  refine dn_iald (pc := 94) v11 dX13_trails_94 (fun v12 => ?_)
                  refine dn_if_eq (pc := 95) 115 dX13_trails_95 rfl (fun _ => ?_) (fun _ => ?_)
                  · exact dn_lv [0, 1, 2, 3, 4] rfl (hj115 s45)
                  · refine dn_aload_n (pc := 98) r0 0 dX13_trails_98 rfl ?_
                    refine dn_getR (pc := 99) r0 lRX13_55 dX13_trails_99 (fun v13 => ?_)
                    refine dn_iload (pc := 102) 4 dX13_trails_102 rfl ?_
                    refine dn_lald (pc := 104) v13 dX13_trails_104 (fun v14 => ?_)
                    refine dn_aload_n (pc := 105) r0 0 dX13_trails_105 rfl ?_
                    refine dn_getR (pc := 106) r0 lRX13_61 dX13_trails_106 (fun v15 => ?_)
                    refine dn_iload_n (pc := 109) 3 dX13_trails_109 rfl ?_
                    refine dn_lald (pc := 110) v15 dX13_trails_110 (fun v16 => ?_)
                    refine dn_lcmp (pc := 111) dX13_trails_111 ?_
                    refine dn_if_le (pc := 112) 135 dX13_trails_112 rfl (fun _ => ?_) (fun _ => ?_)
                    · exact dn_lv [0, 1, 2, 3, 4] rfl (hj135 s45)
                    · exact dn_lv [0, 1, 2, 3, 4] rfl (hj115 s45)
              · exact dn_lv [0, 1, 2, 3, 4] rfl (hj135 s45)
      · exact dn_lv [0, 1, 2, 3] rfl (hj141 l3)
    have hj31 : ∀ (l3 : Int32) (s0 : Option Nat) (s1 : Int32), jX13_trails w x b 31 0 0 [(0, dnV b r0), (1, .int p1), (2, .int (dnZ p2)), (3, .int l3)] [.int s1, dnV b s0] (dnB (fX13_trails_j31 r0 p1 p2 l3 s0 s1) (dnKo K2 E2)) := by
      intro l3 s0 s1
      unfold fX13_trails_j31
      refine dn_iconst (pc := 31) (v := 0) dX13_trails_31 rfl ?_
      exact dn_lv [0, 1, 2, 3] rfl (hj32 l3 s0 s1 false)
    refine dn_iload_n (pc := 2) 3 dX13_trails_2 rfl ?_
    refine dn_bipush (pc := 3) (v := 12) dX13_trails_3 rfl ?_
    refine dn_icmp_ge (pc := 5) 147 dX13_trails_5 rfl (fun _ => ?_) (fun _ => ?_)
    · refine dn_leaf ?_
      exact dn_lv [0, 1] rfl (hE2 ())
    · refine dn_aload_n (pc := 8) r0 0 dX13_trails_8 rfl ?_
      refine dn_getR (pc := 9) r0 lRX13_64 dX13_trails_9 (fun v17 => ?_)
      refine dn_iload_n (pc := 12) 3 dX13_trails_12 rfl ?_
      refine dn_iload_n (pc := 13) 2 dX13_trails_13 rfl ?_
      refine dn_ifz_eq (pc := 14) 31 dX13_trails_14 rfl (fun _ => ?_) (fun _ => ?_)
      · refine dn_iload_n (pc := 17) 3 dX13_trails_17 rfl ?_
        refine dn_aload_n (pc := 18) r0 0 dX13_trails_18 rfl ?_
        refine dn_getR (pc := 19) r0 lRX13_26 dX13_trails_19 (fun v18 => ?_)
        refine dn_iload_n (pc := 22) 1 dX13_trails_22 rfl ?_
        refine dn_iald (pc := 23) v18 dX13_trails_23 (fun v19 => ?_)
        refine dn_icmp_ge (pc := 24) 31 dX13_trails_24 rfl (fun _ => ?_) (fun _ => ?_)
        · exact dn_lv [0, 1, 2, 3] rfl (hj31 s2 v17 s2)
        · refine dn_iconst (pc := 27) (v := 1) dX13_trails_27 rfl ?_
          refine dn_goto (pc := 28) 32 dX13_trails_28 rfl ?_
          exact dn_lv [0, 1, 2, 3] rfl (hj32 s2 v17 s2 true)
      · exact dn_lv [0, 1, 2, 3] rfl (hj31 s2 v17 s2)
  · refine dn_iconst (pc := 147) (v := 0) dX13_trails_147 rfl ?_
    refine dn_istore_n (pc := 148) dX13_trails_148 (Nat.le_of_ble_eq_true rfl) (dnKp_of (lv2 := [(0, dnV b r0), (1, .int p1)]) [0, 1] rfl rfl) ?_
    refine dn_assoc ?_
    refine dn_lv [1, 2, 0] (lv2 := (fun s => [(0, dnV b r0), (1, .int p1), (3, .int s)]) 0) rfl ?_
    refine dn_loopE (pc := 149) (body := fX13_trails_b149 r0 p1) 211 (fun s => [(0, dnV b r0), (1, .int p1), (3, .int s)]) (fun q => []) (fun s149 K149 E149 hK149 hE149 => ?_) (fun q149 => ?_) 1000 0
    · unfold fX13_trails_b149
      have hj204 : ∀ (l3 : Int32) (s0 : Option Nat) (s1 : Int32) (s2 : Int64), jX13_trails w x b 204 0 0 [(0, dnV b r0), (1, .int p1), (3, .int l3)] [.long s2, .int s1, dnV b s0] (dnB (fX13_trails_j204 r0 p1 l3 s0 s1 s2) (dnKo K149 E149)) := by
        intro l3 s0 s1 s2
        unfold fX13_trails_j204
        refine dn_last (pc := 204) s0 dX13_trails_204 ?_
        refine dn_iinc (pc := 205) (l3 + 1) 2 dX13_trails_205 rfl rfl (Nat.le_of_ble_eq_true rfl) (dnKp_of (lv2 := [(0, dnV b r0), (1, .int p1)]) [0, 1] rfl rfl) ?_
        refine dn_goto (pc := 208) 149 dX13_trails_208 rfl ?_
        refine dn_leaf ?_
        exact dn_lv [1, 2, 0] rfl (hK149 (l3 + 1))
      refine dn_iload_n (pc := 149) 2 dX13_trails_149 rfl ?_
      refine dn_bipush (pc := 150) (v := 12) dX13_trails_150 rfl ?_
      refine dn_icmp_ge (pc := 152) 211 dX13_trails_152 rfl (fun _ => ?_) (fun _ => ?_)
      · refine dn_leaf ?_
        exact dn_lv [] rfl (hE149 ())
      · refine dn_aload_n (pc := 155) r0 0 dX13_trails_155 rfl ?_
        refine dn_getR (pc := 156) r0 lRX13_58 dX13_trails_156 (fun v20 => ?_)
        refine dn_iload_n (pc := 159) 2 dX13_trails_159 rfl ?_
        refine dn_aload_n (pc := 160) r0 0 dX13_trails_160 rfl ?_
        refine dn_getR (pc := 161) r0 lRX13_64 dX13_trails_161 (fun v21 => ?_)
        refine dn_iload_n (pc := 164) 2 dX13_trails_164 rfl ?_
        refine dn_iald (pc := 165) v21 dX13_trails_165 (fun v22 => ?_)
        refine dn_iast (pc := 166) v20 dX13_trails_166 ?_
        refine dn_aload_n (pc := 167) r0 0 dX13_trails_167 rfl ?_
        refine dn_getR (pc := 168) r0 lRX13_55 dX13_trails_168 (fun v23 => ?_)
        refine dn_iload_n (pc := 171) 2 dX13_trails_171 rfl ?_
        refine dn_aload_n (pc := 172) r0 0 dX13_trails_172 rfl ?_
        refine dn_getR (pc := 173) r0 lRX13_64 dX13_trails_173 (fun v24 => ?_)
        refine dn_iload_n (pc := 176) 2 dX13_trails_176 rfl ?_
        refine dn_iald (pc := 177) v24 dX13_trails_177 (fun v25 => ?_)
        refine dn_iconst (pc := 178) (v := 1) dX13_trails_178 rfl ?_
        refine dn_icmp_ne (pc := 179) 203 dX13_trails_179 rfl (fun _ => ?_) (fun _ => ?_)
        · refine dn_lconst (pc := 203) (v := 0) dX13_trails_203 rfl ?_
          exact dn_lv [0, 1, 2] rfl (hj204 s149 v23 s149 0)
        · refine dn_aload_n (pc := 182) r0 0 dX13_trails_182 rfl ?_
          refine dn_getR (pc := 183) r0 lRX13_61 dX13_trails_183 (fun v26 => ?_)
          refine dn_iload_n (pc := 186) 2 dX13_trails_186 rfl ?_
          refine dn_lald (pc := 187) v26 dX13_trails_187 (fun v27 => ?_)
          refine dn_aload_n (pc := 188) r0 0 dX13_trails_188 rfl ?_
          refine dn_getR (pc := 189) r0 lRX13_35 dX13_trails_189 (fun v28 => ?_)
          refine dn_bipush (pc := 192) (v := 12) dX13_trails_192 rfl ?_
          refine dn_iload_n (pc := 194) 1 dX13_trails_194 rfl ?_
          refine dn_imul (pc := 195) dX13_trails_195 ?_
          refine dn_iload_n (pc := 196) 2 dX13_trails_196 rfl ?_
          refine dn_iadd (pc := 197) dX13_trails_197 ?_
          refine dn_lald (pc := 198) v28 dX13_trails_198 (fun v29 => ?_)
          refine dn_ladd (pc := 199) dX13_trails_199 ?_
          refine dn_goto (pc := 200) 204 dX13_trails_200 rfl ?_
          exact dn_lv [0, 1, 2] rfl (hj204 s149 v23 s149 (v27 + v29))
    · exact dn_ret (Nat.le_of_ble_eq_true rfl) (Nat.le_of_ble_eq_true rfl) rfl dX13_trails_211
abbrev rmX13_trailAnswer : Room := { frames := 4, cells := 0, slots := 0, locals := 90 }
def fX13_trailAnswer_j81 (l0 : Option Nat) (l1 : Int32) (l2 : Int32) (l3 : Int32) : dnM ((Int32 × Int32) ⊕ (Int32)) :=
  dnP (.inl (l2, (l3 + (-1))))
def fX13_trailAnswer_j75 (l0 : Option Nat) (l1 : Int32) (l2 : Int32) (l3 : Int32) (s0 : Option Nat) (s1 : Int32) (s2 : Bool) : dnM ((Int32 × Int32) ⊕ (Int32)) :=
  dnB (dnCv s0 11 (fX13_trails s0 s1 s2)) fun _ =>
  fX13_trailAnswer_j81 l0 l1 (l2 + 1) l3
def fX13_trailAnswer_b46 (c0 : Option Nat) (c1 : Int32) (s46 : Int32 × Int32) : dnM ((Int32 × Int32) ⊕ (Int32)) :=
  if s46.2 < 0 then
  (dnP (.inr s46.1))
  else
  (dnB (dnCv c0 11 (fX13_isRow c0 c1 s46.2)) fun v8 =>
  if v8 = true then
  (dnB (dnCv c0 11 (fX13_held c0 c1 s46.2)) fun v9 =>
  if ¬ s46.1 = 0 then
  (fX13_trailAnswer_j75 c0 c1 s46.1 s46.2 c0 v9 false)
  else
  (fX13_trailAnswer_j75 c0 c1 s46.1 s46.2 c0 v9 true))
  else
  (fX13_trailAnswer_j81 c0 c1 s46.1 s46.2))
def fX13_trailAnswer_j156 (l0 : Option Nat) (l2 : Int32) (l4 : Int32) (s0 : Int32) : dnM ((Int32 × Int32) ⊕ (Int32)) :=
  dnP (.inl (s0, (l4 + (-1))))
def fX13_trailAnswer_j155 (l0 : Option Nat) (l2 : Int32) (l3 : Int32) (l4 : Int32) : dnM ((Int32 × Int32) ⊕ (Int32)) :=
  fX13_trailAnswer_j156 l0 l2 l4 l3
def fX13_trailAnswer_j150 (l0 : Option Nat) (l2 : Int32) (l4 : Int32) : dnM ((Int32 × Int32) ⊕ (Int32)) :=
  fX13_trailAnswer_j156 l0 l2 l4 l4
def fX13_trailAnswer_b111 (c0 : Option Nat) (c2 : Int32) (s111 : Int32 × Int32) : dnM ((Int32 × Int32) ⊕ (Int32)) :=
  if s111.2 < 0 then
  (dnP (.inr s111.1))
  else
  (dnB (dnGR c0 11 23) fun v10 =>
  dnB (dnAI v10 100 s111.2) fun v11 =>
  if ¬ v11 = 1 then
  (fX13_trailAnswer_j155 c0 c2 s111.1 s111.2)
  else
  (if s111.1 = (-9) then
  (fX13_trailAnswer_j150 c0 c2 s111.2)
  else
  (dnB (dnGR c0 11 22) fun v12 =>
  dnB (dnAL v12 102 s111.2) fun v13 =>
  dnB (dnGR c0 11 22) fun v14 =>
  dnB (dnAL v14 102 s111.1) fun v15 =>
  if (lg_cmp v13 v15) < 0 then
  (fX13_trailAnswer_j155 c0 c2 s111.1 s111.2)
  else
  (fX13_trailAnswer_j150 c0 c2 s111.2))))
def fX13_trailAnswer (r0 : Option Nat) (p1 : Int32) : dnM Int32 :=
  dnB (fX13_isGrid p1) fun v1 =>
  if v1 = true then
  (dnB (dnGR r0 11 4) fun v2 =>
  dnB (dnAI v2 100 p1) fun v3 =>
  if 0 ≤ v3 then
  (dnB (dnCv r0 11 (fX13_firstUnlike r0 p1 4)) fun v4 =>
  if v4 = (-9) then
  (dnB (dnGR r0 11 4) fun v5 =>
  dnB (dnAI v5 100 p1) fun v6 =>
  dnB (dnIt 1000 (fX13_trailAnswer_b46 r0 p1) (0, (v6 - 1))) fun q46 =>
  if ¬ q46 = 0 then
  (dnB (dnIt 1000 (fX13_trailAnswer_b111 r0 q46) ((-9), 11)) fun q111 =>
  if ¬ q111 = (-9) then
  (dnB (dnPI r0 11 2 q111) fun _ =>
  dnB (dnGR r0 11 22) fun v16 =>
  dnB (dnAL v16 102 q111) fun v17 =>
  dnB (dnCv r0 11 (fX13_tells r0 v17 q46)) fun v18 =>
  dnP v18)
  else
  (dnP (-9)))
  else
  (dnB (dnPI r0 11 2 (-9)) fun _ =>
  dnB (dnCv r0 11 (fX13_tells r0 0 0)) fun v19 =>
  dnP v19))
  else
  (dnP (-7)))
  else
  (dnP (-2)))
  else
  (dnP (-1))
abbrev jX13_trailAnswer (w : dnWd) (x : dnX) (b : Nat) := dnD w x b (fun _ => True) cX13_trailAnswer RX13 5 rmX13_trailAnswer "trailAnswer" eI
set_option maxHeartbeats 4000000 in
set_option maxRecDepth 100000 in
theorem mX13_trailAnswer (w : dnWd) (x : dnX) (b : Nat) (r0 : Option Nat) (p1 : Int32) : dnMt w x b yX13_trailAnswer cX13_trailAnswer 5 (some .int) rmX13_trailAnswer eI [dnV b r0, .int p1] (fX13_trailAnswer r0 p1) := by
  have hlv : lv_args 0 [dnV b r0, .int p1] = [(0, dnV b r0), (1, .int p1)] := by cases r0 <;> rfl
  refine dn_mt (by decide +kernel) roI (by cases r0 <;> exact (Nat.le_of_ble_eq_true rfl)) ?_
  rw [hlv]
  refine dn_top ?_
  show jX13_trailAnswer w x b 0 0 0 _ [] (dnB _ dnP)
  unfold fX13_trailAnswer
  refine dn_iload_n (pc := 0) 1 dX13_trailAnswer_0 rfl ?_
  refine dn_callS0Z (pc := 1) [.int p1]  kRX13_134 (mX13_isGrid w x b p1) rfl rfl (Nat.le_of_ble_eq_true rfl) ⟨(Nat.le_of_ble_eq_true rfl), (Nat.le_of_ble_eq_true rfl)⟩ ⟨rfl, rfl, (Nat.le_of_ble_eq_true rfl), (Nat.le_of_ble_eq_true rfl)⟩ dX13_trailAnswer_1 (fun v1 => ?_)
  refine dn_ifz_ne (pc := 4) 9 dX13_trailAnswer_4 rfl (fun _ => ?_) (fun _ => ?_)
  · refine dn_aload_n (pc := 9) r0 0 dX13_trailAnswer_9 rfl ?_
    refine dn_getR (pc := 10) r0 lRX13_17 dX13_trailAnswer_10 (fun v2 => ?_)
    refine dn_iload_n (pc := 13) 1 dX13_trailAnswer_13 rfl ?_
    refine dn_iald (pc := 14) v2 dX13_trailAnswer_14 (fun v3 => ?_)
    refine dn_if_ge (pc := 15) 21 dX13_trailAnswer_15 rfl (fun _ => ?_) (fun _ => ?_)
    · refine dn_aload_n (pc := 21) r0 0 dX13_trailAnswer_21 rfl ?_
      refine dn_iload_n (pc := 22) 1 dX13_trailAnswer_22 rfl ?_
      refine dn_iconst (pc := 23) (v := 4) dX13_trailAnswer_23 rfl ?_
      refine dn_callV0I (pc := 24) [.int p1, .int 4] r0 kRX13_360 (mX13_firstUnlike w x b r0 p1 4) rfl rfl (Nat.le_of_ble_eq_true rfl) ⟨(Nat.le_of_ble_eq_true rfl), (Nat.le_of_ble_eq_true rfl)⟩ ⟨rfl, rfl, (Nat.le_of_ble_eq_true rfl), (Nat.le_of_ble_eq_true rfl)⟩ dX13_trailAnswer_24 (fun v4 => ?_)
      refine dn_bipush (pc := 27) (v := -9) dX13_trailAnswer_27 rfl ?_
      refine dn_icmp_eq (pc := 29) 35 dX13_trailAnswer_29 rfl (fun _ => ?_) (fun _ => ?_)
      · refine dn_iconst (pc := 35) (v := 0) dX13_trailAnswer_35 rfl ?_
        refine dn_istore_n (pc := 36) dX13_trailAnswer_36 (Nat.le_of_ble_eq_true rfl) (dnKp_nb 1 rfl rfl rfl (dnKp_of (lv2 := [(0, dnV b r0)]) [0] rfl rfl)) ?_
        refine dn_aload_n (pc := 37) r0 2 dX13_trailAnswer_37 rfl ?_
        refine dn_getR (pc := 38) r0 lRX13_17 dX13_trailAnswer_38 (fun v5 => ?_)
        refine dn_iload_n (pc := 41) 1 dX13_trailAnswer_41 rfl ?_
        refine dn_iald (pc := 42) v5 dX13_trailAnswer_42 (fun v6 => ?_)
        refine dn_iconst (pc := 43) (v := 1) dX13_trailAnswer_43 rfl ?_
        refine dn_isub (pc := 44) dX13_trailAnswer_44 ?_
        refine dn_istore_n (pc := 45) dX13_trailAnswer_45 (Nat.le_of_ble_eq_true rfl) (dnKp_nb 0 rfl rfl rfl (dnKp_of (lv2 := [(1, .int p1), (0, dnV b r0)]) [1, 2] rfl rfl)) ?_
        refine dn_assoc ?_
        refine dn_lv [3, 2, 1, 0] (lv2 := (fun s => [(0, dnV b r0), (1, .int p1), (2, .int s.1), (3, .int s.2)]) (0, (v6 - 1))) rfl ?_
        refine dn_loopE (pc := 46) (body := fX13_trailAnswer_b46 r0 p1) 87 (fun s => [(0, dnV b r0), (1, .int p1), (2, .int s.1), (3, .int s.2)]) (fun q => [(0, dnV b r0), (2, .int q)]) (fun s46 K46 E46 hK46 hE46 => ?_) (fun q46 => ?_) 1000 (0, (v6 - 1))
        · unfold fX13_trailAnswer_b46
          have hj81 : ∀ (l2 : Int32) (l3 : Int32), jX13_trailAnswer w x b 81 0 0 [(0, dnV b r0), (1, .int p1), (2, .int l2), (3, .int l3)] [] (dnB (fX13_trailAnswer_j81 r0 p1 l2 l3) (dnKo K46 E46)) := by
            intro l2 l3
            unfold fX13_trailAnswer_j81
            refine dn_iinc (pc := 81) (l3 + (-1)) 3 dX13_trailAnswer_81 rfl rfl (Nat.le_of_ble_eq_true rfl) (dnKp_nb 2 rfl rfl rfl (dnKp_of (lv2 := [(0, dnV b r0), (1, .int p1)]) [0, 1] rfl rfl)) ?_
            refine dn_goto (pc := 84) 46 dX13_trailAnswer_84 rfl ?_
            refine dn_leaf ?_
            exact dn_lv [2, 3, 1, 0] rfl (hK46 (l2, (l3 + (-1))))
          have hj75 : ∀ (l2 : Int32) (l3 : Int32) (s0 : Option Nat) (s1 : Int32) (s2 : Bool), jX13_trailAnswer w x b 75 0 0 [(0, dnV b r0), (1, .int p1), (2, .int l2), (3, .int l3)] [.int (dnZ s2), .int s1, dnV b s0] (dnB (fX13_trailAnswer_j75 r0 p1 l2 l3 s0 s1 s2) (dnKo K46 E46)) := by
            intro l2 l3 s0 s1 s2
            unfold fX13_trailAnswer_j75
            refine dn_callV0U (pc := 75) [.int s1, .int (dnZ s2)] s0 kRX13_406 (mX13_trails w x b s0 s1 s2) rfl rfl (Nat.le_of_ble_eq_true rfl) ⟨(Nat.le_of_ble_eq_true rfl), (Nat.le_of_ble_eq_true rfl)⟩ ⟨rfl, rfl, (Nat.le_of_ble_eq_true rfl), (Nat.le_of_ble_eq_true rfl)⟩ dX13_trailAnswer_75 (fun _ => ?_)
            refine dn_iinc (pc := 78) (l2 + 1) 2 dX13_trailAnswer_78 rfl rfl (Nat.le_of_ble_eq_true rfl) (dnKp_nb 1 rfl rfl rfl (dnKp_of (lv2 := [(0, dnV b r0), (3, .int l3)]) [0, 3] rfl rfl)) ?_
            exact dn_lv [2, 1, 0, 3] rfl (hj81 (l2 + 1) l3)
          refine dn_iload_n (pc := 46) 3 dX13_trailAnswer_46 rfl ?_
          refine dn_if_lt (pc := 47) 87 dX13_trailAnswer_47 rfl (fun _ => ?_) (fun _ => ?_)
          · refine dn_leaf ?_
            exact dn_lv [0, 2] rfl (hE46 s46.1)
          · refine dn_aload_n (pc := 50) r0 0 dX13_trailAnswer_50 rfl ?_
            refine dn_iload_n (pc := 51) 1 dX13_trailAnswer_51 rfl ?_
            refine dn_iload_n (pc := 52) 3 dX13_trailAnswer_52 rfl ?_
            refine dn_callV0Z (pc := 53) [.int p1, .int s46.2] r0 kRX13_336 (mX13_isRow w x b r0 p1 s46.2) rfl rfl (Nat.le_of_ble_eq_true rfl) ⟨(Nat.le_of_ble_eq_true rfl), (Nat.le_of_ble_eq_true rfl)⟩ ⟨rfl, rfl, (Nat.le_of_ble_eq_true rfl), (Nat.le_of_ble_eq_true rfl)⟩ dX13_trailAnswer_53 (fun v8 => ?_)
            refine dn_ifz_eq (pc := 56) 81 dX13_trailAnswer_56 rfl (fun _ => ?_) (fun _ => ?_)
            · refine dn_aload_n (pc := 59) r0 0 dX13_trailAnswer_59 rfl ?_
              refine dn_aload_n (pc := 60) r0 0 dX13_trailAnswer_60 rfl ?_
              refine dn_iload_n (pc := 61) 1 dX13_trailAnswer_61 rfl ?_
              refine dn_iload_n (pc := 62) 3 dX13_trailAnswer_62 rfl ?_
              refine dn_callV0I (pc := 63) [.int p1, .int s46.2] r0 kRX13_128 (mX13_held w x b r0 p1 s46.2) rfl rfl (Nat.le_of_ble_eq_true rfl) ⟨(Nat.le_of_ble_eq_true rfl), (Nat.le_of_ble_eq_true rfl)⟩ ⟨rfl, rfl, (Nat.le_of_ble_eq_true rfl), (Nat.le_of_ble_eq_true rfl)⟩ dX13_trailAnswer_63 (fun v9 => ?_)
              refine dn_iload_n (pc := 66) 2 dX13_trailAnswer_66 rfl ?_
              refine dn_if_ne (pc := 67) 74 dX13_trailAnswer_67 rfl (fun _ => ?_) (fun _ => ?_)
              · refine dn_iconst (pc := 74) (v := 0) dX13_trailAnswer_74 rfl ?_
                exact dn_lv [0, 1, 2, 3] rfl (hj75 s46.1 s46.2 r0 v9 false)
              · refine dn_iconst (pc := 70) (v := 1) dX13_trailAnswer_70 rfl ?_
                refine dn_goto (pc := 71) 75 dX13_trailAnswer_71 rfl ?_
                exact dn_lv [0, 1, 2, 3] rfl (hj75 s46.1 s46.2 r0 v9 true)
            · exact dn_lv [0, 1, 2, 3] rfl (hj81 s46.1 s46.2)
        · refine dn_iload_n (pc := 87) 1 dX13_trailAnswer_87 rfl ?_
          refine dn_if_ne (pc := 88) 104 dX13_trailAnswer_88 rfl (fun _ => ?_) (fun _ => ?_)
          · refine dn_bipush (pc := 104) (v := -9) dX13_trailAnswer_104 rfl ?_
            refine dn_istore_n (pc := 106) dX13_trailAnswer_106 (Nat.le_of_ble_eq_true rfl) (dnKp_nb 1 rfl rfl rfl (dnKp_of (lv2 := [(0, dnV b r0)]) [0] rfl rfl)) ?_
            refine dn_bipush (pc := 107) (v := 11) dX13_trailAnswer_107 rfl ?_
            refine dn_istore (pc := 109) dX13_trailAnswer_109 (Nat.le_of_ble_eq_true rfl) (dnKp_nb 0 rfl rfl rfl (dnKp_of (lv2 := [(2, .int q46), (0, dnV b r0)]) [1, 2] rfl rfl)) ?_
            refine dn_assoc ?_
            refine dn_lv [3, 2, 1, 0] (lv2 := (fun s => [(0, dnV b r0), (2, .int q46), (3, .int s.1), (4, .int s.2)]) ((-9), 11)) rfl ?_
            refine dn_loopE (pc := 111) (body := fX13_trailAnswer_b111 r0 q46) 163 (fun s => [(0, dnV b r0), (2, .int q46), (3, .int s.1), (4, .int s.2)]) (fun q => [(0, dnV b r0), (2, .int q46), (3, .int q)]) (fun s111 K111 E111 hK111 hE111 => ?_) (fun q111 => ?_) 1000 ((-9), 11)
            · unfold fX13_trailAnswer_b111
              have hj156 : ∀ (l4 : Int32) (s0 : Int32), jX13_trailAnswer w x b 156 0 0 [(0, dnV b r0), (2, .int q46), (4, .int l4)] [.int s0] (dnB (fX13_trailAnswer_j156 r0 q46 l4 s0) (dnKo K111 E111)) := by
                intro l4 s0
                unfold fX13_trailAnswer_j156
                refine dn_istore_n (pc := 156) dX13_trailAnswer_156 (Nat.le_of_ble_eq_true rfl) (dnKp_nb 1 rfl rfl rfl (dnKp_of (lv2 := [(0, dnV b r0), (4, .int l4)]) [0, 2] rfl rfl)) ?_
                refine dn_iinc (pc := 157) (l4 + (-1)) 3 dX13_trailAnswer_157 rfl rfl (Nat.le_of_ble_eq_true rfl) (dnKp_nb 0 rfl rfl rfl (dnKp_of (lv2 := [(2, .int q46), (0, dnV b r0)]) [1, 2] rfl rfl)) ?_
                refine dn_goto (pc := 160) 111 dX13_trailAnswer_160 rfl ?_
                refine dn_leaf ?_
                exact dn_lv [3, 2, 1, 0] rfl (hK111 (s0, (l4 + (-1))))
              have hj155 : ∀ (l3 : Int32) (l4 : Int32), jX13_trailAnswer w x b 155 0 0 [(0, dnV b r0), (2, .int q46), (3, .int l3), (4, .int l4)] [] (dnB (fX13_trailAnswer_j155 r0 q46 l3 l4) (dnKo K111 E111)) := by
                intro l3 l4
                unfold fX13_trailAnswer_j155
                refine dn_iload_n (pc := 155) 2 dX13_trailAnswer_155 rfl ?_
                exact dn_lv [0, 1, 3] rfl (hj156 l4 l3)
              have hj150 : ∀ (l4 : Int32), jX13_trailAnswer w x b 150 0 0 [(0, dnV b r0), (2, .int q46), (4, .int l4)] [] (dnB (fX13_trailAnswer_j150 r0 q46 l4) (dnKo K111 E111)) := by
                intro l4
                unfold fX13_trailAnswer_j150
                refine dn_iload (pc := 150) 2 dX13_trailAnswer_150 rfl ?_
                refine dn_goto (pc := 152) 156 dX13_trailAnswer_152 rfl ?_
                exact dn_lv [0, 1, 2] rfl (hj156 l4 l4)
              refine dn_iload (pc := 111) 3 dX13_trailAnswer_111 rfl ?_
              refine dn_if_lt (pc := 113) 163 dX13_trailAnswer_113 rfl (fun _ => ?_) (fun _ => ?_)
              · refine dn_leaf ?_
                exact dn_lv [0, 1, 2] rfl (hE111 s111.1)
              · refine dn_aload_n (pc := 116) r0 0 dX13_trailAnswer_116 rfl ?_
                refine dn_getR (pc := 117) r0 lRX13_58 dX13_trailAnswer_117 (fun v10 => ?_)
                refine dn_iload (pc := 120) 3 dX13_trailAnswer_120 rfl ?_
                refine dn_iald (pc := 122) v10 dX13_trailAnswer_122 (fun v11 => ?_)
                refine dn_iconst (pc := 123) (v := 1) dX13_trailAnswer_123 rfl ?_
                refine dn_icmp_ne (pc := 124) 155 dX13_trailAnswer_124 rfl (fun _ => ?_) (fun _ => ?_)
                · exact dn_lv [0, 1, 2, 3] rfl (hj155 s111.1 s111.2)
                · refine dn_iload_n (pc := 127) 2 dX13_trailAnswer_127 rfl ?_
                  refine dn_bipush (pc := 128) (v := -9) dX13_trailAnswer_128 rfl ?_
                  refine dn_icmp_eq (pc := 130) 150 dX13_trailAnswer_130 rfl (fun _ => ?_) (fun _ => ?_)
                  · exact dn_lv [0, 1, 3] rfl (hj150 s111.2)
                  · refine dn_aload_n (pc := 133) r0 0 dX13_trailAnswer_133 rfl ?_
                    refine dn_getR (pc := 134) r0 lRX13_55 dX13_trailAnswer_134 (fun v12 => ?_)
                    refine dn_iload (pc := 137) 3 dX13_trailAnswer_137 rfl ?_
                    refine dn_lald (pc := 139) v12 dX13_trailAnswer_139 (fun v13 => ?_)
                    refine dn_aload_n (pc := 140) r0 0 dX13_trailAnswer_140 rfl ?_
                    refine dn_getR (pc := 141) r0 lRX13_55 dX13_trailAnswer_141 (fun v14 => ?_)
                    refine dn_iload_n (pc := 144) 2 dX13_trailAnswer_144 rfl ?_
                    refine dn_lald (pc := 145) v14 dX13_trailAnswer_145 (fun v15 => ?_)
                    refine dn_lcmp (pc := 146) dX13_trailAnswer_146 ?_
                    refine dn_if_lt (pc := 147) 155 dX13_trailAnswer_147 rfl (fun _ => ?_) (fun _ => ?_)
                    · exact dn_lv [0, 1, 2, 3] rfl (hj155 s111.1 s111.2)
                    · exact dn_lv [0, 1, 3] rfl (hj150 s111.2)
            · refine dn_iload_n (pc := 163) 2 dX13_trailAnswer_163 rfl ?_
              refine dn_bipush (pc := 164) (v := -9) dX13_trailAnswer_164 rfl ?_
              refine dn_icmp_ne (pc := 166) 172 dX13_trailAnswer_166 rfl (fun _ => ?_) (fun _ => ?_)
              · refine dn_aload_n (pc := 172) r0 0 dX13_trailAnswer_172 rfl ?_
                refine dn_iload_n (pc := 173) 2 dX13_trailAnswer_173 rfl ?_
                refine dn_putI (pc := 174) r0 lRX13_13 dX13_trailAnswer_174 ?_
                refine dn_aload_n (pc := 177) r0 0 dX13_trailAnswer_177 rfl ?_
                refine dn_aload_n (pc := 178) r0 0 dX13_trailAnswer_178 rfl ?_
                refine dn_getR (pc := 179) r0 lRX13_55 dX13_trailAnswer_179 (fun v16 => ?_)
                refine dn_iload_n (pc := 182) 2 dX13_trailAnswer_182 rfl ?_
                refine dn_lald (pc := 183) v16 dX13_trailAnswer_183 (fun v17 => ?_)
                refine dn_iload_n (pc := 184) 1 dX13_trailAnswer_184 rfl ?_
                refine dn_callV0I (pc := 185) [.long v17, .int q46] r0 kRX13_243 (mX13_tells w x b r0 v17 q46) rfl rfl (Nat.le_of_ble_eq_true rfl) ⟨(Nat.le_of_ble_eq_true rfl), (Nat.le_of_ble_eq_true rfl)⟩ ⟨rfl, rfl, (Nat.le_of_ble_eq_true rfl), (Nat.le_of_ble_eq_true rfl)⟩ dX13_trailAnswer_185 (fun v18 => ?_)
                exact dn_ret (Nat.le_of_ble_eq_true rfl) (Nat.le_of_ble_eq_true rfl) rfl dX13_trailAnswer_188
              · refine dn_bipush (pc := 169) (v := -9) dX13_trailAnswer_169 rfl ?_
                exact dn_ret (Nat.le_of_ble_eq_true rfl) (Nat.le_of_ble_eq_true rfl) rfl dX13_trailAnswer_171
          · refine dn_aload_n (pc := 91) r0 0 dX13_trailAnswer_91 rfl ?_
            refine dn_bipush (pc := 92) (v := -9) dX13_trailAnswer_92 rfl ?_
            refine dn_putI (pc := 94) r0 lRX13_13 dX13_trailAnswer_94 ?_
            refine dn_aload_n (pc := 97) r0 0 dX13_trailAnswer_97 rfl ?_
            refine dn_lconst (pc := 98) (v := 0) dX13_trailAnswer_98 rfl ?_
            refine dn_iconst (pc := 99) (v := 0) dX13_trailAnswer_99 rfl ?_
            refine dn_callV0I (pc := 100) [.long 0, .int 0] r0 kRX13_243 (mX13_tells w x b r0 0 0) rfl rfl (Nat.le_of_ble_eq_true rfl) ⟨(Nat.le_of_ble_eq_true rfl), (Nat.le_of_ble_eq_true rfl)⟩ ⟨rfl, rfl, (Nat.le_of_ble_eq_true rfl), (Nat.le_of_ble_eq_true rfl)⟩ dX13_trailAnswer_100 (fun v19 => ?_)
            exact dn_ret (Nat.le_of_ble_eq_true rfl) (Nat.le_of_ble_eq_true rfl) rfl dX13_trailAnswer_103
      · refine dn_bipush (pc := 32) (v := -7) dX13_trailAnswer_32 rfl ?_
        exact dn_ret (Nat.le_of_ble_eq_true rfl) (Nat.le_of_ble_eq_true rfl) rfl dX13_trailAnswer_34
    · refine dn_bipush (pc := 18) (v := -2) dX13_trailAnswer_18 rfl ?_
      exact dn_ret (Nat.le_of_ble_eq_true rfl) (Nat.le_of_ble_eq_true rfl) rfl dX13_trailAnswer_20
  · refine dn_iconst (pc := 7) (v := -1) dX13_trailAnswer_7 rfl ?_
    exact dn_ret (Nat.le_of_ble_eq_true rfl) (Nat.le_of_ble_eq_true rfl) rfl dX13_trailAnswer_8
abbrev rmX13_trail : Room := { frames := 5, cells := 0, slots := 0, locals := 114 }
def fX13_trail (r0 : Option Nat) (p1 : Int32) : dnM Int32 :=
  dnB (dnCv r0 11 (fX13_trailAnswer r0 p1)) fun v1 =>
  dnB (dnCv r0 11 (fX13_said r0 v1)) fun v2 =>
  dnP v2
abbrev jX13_trail (w : dnWd) (x : dnX) (b : Nat) := dnD w x b (fun _ => True) cX13_trail RX13 2 rmX13_trail "trail" eI
set_option maxHeartbeats 4000000 in
set_option maxRecDepth 100000 in
theorem mX13_trail (w : dnWd) (x : dnX) (b : Nat) (r0 : Option Nat) (p1 : Int32) : dnMt w x b yX13_trail cX13_trail 2 (some .int) rmX13_trail eI [dnV b r0, .int p1] (fX13_trail r0 p1) := by
  have hlv : lv_args 0 [dnV b r0, .int p1] = [(0, dnV b r0), (1, .int p1)] := by cases r0 <;> rfl
  refine dn_mt (by decide +kernel) roI (by cases r0 <;> exact (Nat.le_of_ble_eq_true rfl)) ?_
  rw [hlv]
  refine dn_top ?_
  show jX13_trail w x b 0 0 0 _ [] (dnB _ dnP)
  unfold fX13_trail
  refine dn_aload_n (pc := 0) r0 0 dX13_trail_0 rfl ?_
  refine dn_aload_n (pc := 1) r0 0 dX13_trail_1 rfl ?_
  refine dn_iload_n (pc := 2) 1 dX13_trail_2 rfl ?_
  refine dn_callV0I (pc := 3) [.int p1] r0 kRX13_410 (mX13_trailAnswer w x b r0 p1) rfl rfl (Nat.le_of_ble_eq_true rfl) ⟨(Nat.le_of_ble_eq_true rfl), (Nat.le_of_ble_eq_true rfl)⟩ ⟨rfl, rfl, (Nat.le_of_ble_eq_true rfl), (Nat.le_of_ble_eq_true rfl)⟩ dX13_trail_3 (fun v1 => ?_)
  refine dn_callV0I (pc := 6) [.int v1] r0 kRX13_137 (mX13_said w x b r0 v1) rfl rfl (Nat.le_of_ble_eq_true rfl) ⟨(Nat.le_of_ble_eq_true rfl), (Nat.le_of_ble_eq_true rfl)⟩ ⟨rfl, rfl, (Nat.le_of_ble_eq_true rfl), (Nat.le_of_ble_eq_true rfl)⟩ dX13_trail_6 (fun v2 => ?_)
  exact dn_ret (Nat.le_of_ble_eq_true rfl) (Nat.le_of_ble_eq_true rfl) rfl dX13_trail_9
abbrev rmX13_turn : Room := { frames := 6, cells := 0, slots := 0, locals := 140 }
def fX13_turn (r0 : Option Nat) (p1 : Int32) (p2 : Int32) : dnM Int32 :=
  dnB (dnCv r0 11 (fX13_turnDeed r0 p1 p2)) fun v1 =>
  dnB (dnCv r0 11 (fX13_said r0 v1)) fun v2 =>
  dnP v2
abbrev jX13_turn (w : dnWd) (x : dnX) (b : Nat) := dnD w x b (fun _ => True) cX13_turn RX13 3 rmX13_turn "turn" eI
set_option maxHeartbeats 4000000 in
set_option maxRecDepth 100000 in
theorem mX13_turn (w : dnWd) (x : dnX) (b : Nat) (r0 : Option Nat) (p1 : Int32) (p2 : Int32) : dnMt w x b yX13_turn cX13_turn 3 (some .int) rmX13_turn eI [dnV b r0, .int p1, .int p2] (fX13_turn r0 p1 p2) := by
  have hlv : lv_args 0 [dnV b r0, .int p1, .int p2] = [(0, dnV b r0), (1, .int p1), (2, .int p2)] := by cases r0 <;> rfl
  refine dn_mt (by decide +kernel) roI (by cases r0 <;> exact (Nat.le_of_ble_eq_true rfl)) ?_
  rw [hlv]
  refine dn_top ?_
  show jX13_turn w x b 0 0 0 _ [] (dnB _ dnP)
  unfold fX13_turn
  refine dn_aload_n (pc := 0) r0 0 dX13_turn_0 rfl ?_
  refine dn_aload_n (pc := 1) r0 0 dX13_turn_1 rfl ?_
  refine dn_iload_n (pc := 2) 1 dX13_turn_2 rfl ?_
  refine dn_iload_n (pc := 3) 2 dX13_turn_3 rfl ?_
  refine dn_callV0I (pc := 4) [.int p1, .int p2] r0 kRX13_357 (mX13_turnDeed w x b r0 p1 p2) rfl rfl (Nat.le_of_ble_eq_true rfl) ⟨(Nat.le_of_ble_eq_true rfl), (Nat.le_of_ble_eq_true rfl)⟩ ⟨rfl, rfl, (Nat.le_of_ble_eq_true rfl), (Nat.le_of_ble_eq_true rfl)⟩ dX13_turn_4 (fun v1 => ?_)
  refine dn_callV0I (pc := 7) [.int v1] r0 kRX13_137 (mX13_said w x b r0 v1) rfl rfl (Nat.le_of_ble_eq_true rfl) ⟨(Nat.le_of_ble_eq_true rfl), (Nat.le_of_ble_eq_true rfl)⟩ ⟨rfl, rfl, (Nat.le_of_ble_eq_true rfl), (Nat.le_of_ble_eq_true rfl)⟩ dX13_turn_7 (fun v2 => ?_)
  exact dn_ret (Nat.le_of_ble_eq_true rfl) (Nat.le_of_ble_eq_true rfl) rfl dX13_turn_10
abbrev rmX13_type : Room := { frames := 2, cells := 0, slots := 0, locals := 43 }
def fX13_type (r0 : Option Nat) (p1 : Int32) : dnM Int32 :=
  dnB (fX13_in p1 0 255) fun v1 =>
  if v1 = true then
  (dnB (dnGI r0 11 37) fun v2 =>
  if ¬ v2 = 80 then
  (dnB (dnGR r0 11 36) fun v3 =>
  dnB (dnGI r0 11 37) fun v4 =>
  dnB (dnTI v3 100 v4 p1) fun _ =>
  dnB (dnGI r0 11 37) fun v5 =>
  dnB (dnPI r0 11 37 (v5 + 1)) fun _ =>
  dnB (dnGI r0 11 37) fun v6 =>
  dnP v6)
  else
  (dnB (dnCv r0 11 (fX13_said r0 (-10))) fun v7 =>
  dnP v7))
  else
  (dnB (dnCv r0 11 (fX13_said r0 (-1))) fun v8 =>
  dnP v8)
abbrev jX13_type (w : dnWd) (x : dnX) (b : Nat) := dnD w x b (fun _ => True) cX13_type RX13 2 rmX13_type "type" eI
set_option maxHeartbeats 4000000 in
set_option maxRecDepth 100000 in
theorem mX13_type (w : dnWd) (x : dnX) (b : Nat) (r0 : Option Nat) (p1 : Int32) : dnMt w x b yX13_type cX13_type 2 (some .int) rmX13_type eI [dnV b r0, .int p1] (fX13_type r0 p1) := by
  have hlv : lv_args 0 [dnV b r0, .int p1] = [(0, dnV b r0), (1, .int p1)] := by cases r0 <;> rfl
  refine dn_mt (by decide +kernel) roI (by cases r0 <;> exact (Nat.le_of_ble_eq_true rfl)) ?_
  rw [hlv]
  refine dn_top ?_
  show jX13_type w x b 0 0 0 _ [] (dnB _ dnP)
  unfold fX13_type
  refine dn_iload_n (pc := 0) 1 dX13_type_0 rfl ?_
  refine dn_iconst (pc := 1) (v := 0) dX13_type_1 rfl ?_
  refine dn_sipush (pc := 2) (v := 255) dX13_type_2 rfl ?_
  refine dn_callS0Z (pc := 5) [.int p1, .int 0, .int 255]  kRX13_109 (mX13_in w x b p1 0 255) rfl rfl (Nat.le_of_ble_eq_true rfl) ⟨(Nat.le_of_ble_eq_true rfl), (Nat.le_of_ble_eq_true rfl)⟩ ⟨rfl, rfl, (Nat.le_of_ble_eq_true rfl), (Nat.le_of_ble_eq_true rfl)⟩ dX13_type_5 (fun v1 => ?_)
  refine dn_ifz_ne (pc := 8) 17 dX13_type_8 rfl (fun _ => ?_) (fun _ => ?_)
  · refine dn_aload_n (pc := 17) r0 0 dX13_type_17 rfl ?_
    refine dn_getI (pc := 18) r0 lRX13_466 dX13_type_18 (fun v2 => ?_)
    refine dn_bipush (pc := 21) (v := 80) dX13_type_21 rfl ?_
    refine dn_icmp_ne (pc := 23) 33 dX13_type_23 rfl (fun _ => ?_) (fun _ => ?_)
    · refine dn_aload_n (pc := 33) r0 0 dX13_type_33 rfl ?_
      refine dn_getR (pc := 34) r0 lRX13_94 dX13_type_34 (fun v3 => ?_)
      refine dn_aload_n (pc := 37) r0 0 dX13_type_37 rfl ?_
      refine dn_getI (pc := 38) r0 lRX13_466 dX13_type_38 (fun v4 => ?_)
      refine dn_iload_n (pc := 41) 1 dX13_type_41 rfl ?_
      refine dn_iast (pc := 42) v3 dX13_type_42 ?_
      refine dn_aload_n (pc := 43) r0 0 dX13_type_43 rfl ?_
      refine dn_dup (pc := 44) dX13_type_44 (dn_cat b _) ?_
      refine dn_getI (pc := 45) r0 lRX13_466 dX13_type_45 (fun v5 => ?_)
      refine dn_iconst (pc := 48) (v := 1) dX13_type_48 rfl ?_
      refine dn_iadd (pc := 49) dX13_type_49 ?_
      refine dn_putI (pc := 50) r0 lRX13_466 dX13_type_50 ?_
      refine dn_aload_n (pc := 53) r0 0 dX13_type_53 rfl ?_
      refine dn_getI (pc := 54) r0 lRX13_466 dX13_type_54 (fun v6 => ?_)
      exact dn_ret (Nat.le_of_ble_eq_true rfl) (Nat.le_of_ble_eq_true rfl) rfl dX13_type_57
    · refine dn_aload_n (pc := 26) r0 0 dX13_type_26 rfl ?_
      refine dn_bipush (pc := 27) (v := -10) dX13_type_27 rfl ?_
      refine dn_callV0I (pc := 29) [.int (-10)] r0 kRX13_137 (mX13_said w x b r0 (-10)) rfl rfl (Nat.le_of_ble_eq_true rfl) ⟨(Nat.le_of_ble_eq_true rfl), (Nat.le_of_ble_eq_true rfl)⟩ ⟨rfl, rfl, (Nat.le_of_ble_eq_true rfl), (Nat.le_of_ble_eq_true rfl)⟩ dX13_type_29 (fun v7 => ?_)
      exact dn_ret (Nat.le_of_ble_eq_true rfl) (Nat.le_of_ble_eq_true rfl) rfl dX13_type_32
  · refine dn_aload_n (pc := 11) r0 0 dX13_type_11 rfl ?_
    refine dn_iconst (pc := 12) (v := -1) dX13_type_12 rfl ?_
    refine dn_callV0I (pc := 13) [.int (-1)] r0 kRX13_137 (mX13_said w x b r0 (-1)) rfl rfl (Nat.le_of_ble_eq_true rfl) ⟨(Nat.le_of_ble_eq_true rfl), (Nat.le_of_ble_eq_true rfl)⟩ ⟨rfl, rfl, (Nat.le_of_ble_eq_true rfl), (Nat.le_of_ble_eq_true rfl)⟩ dX13_type_13 (fun v8 => ?_)
    exact dn_ret (Nat.le_of_ble_eq_true rfl) (Nat.le_of_ble_eq_true rfl) rfl dX13_type_16
abbrev rmX13_writeDeed : Room := { frames := 4, cells := 0, slots := 0, locals := 92 }
def fX13_writeDeed (r0 : Option Nat) (p1 : Int32) (p2 : Int32) (p3 : Int32) (p4 : Int32) (p5 : Int64) : dnM Int32 :=
  dnB (fX13_isGrid p1) fun v1 =>
  if v1 = true then
  (dnB (fX13_isPlain p4) fun v2 =>
  if v2 = true then
  (dnB (dnCv r0 11 (fX13_cellFault r0 p1 p2 p3)) fun v3 =>
  if v3 = 0 then
  (dnB (dnCv r0 11 (fX13_held r0 p1 p2)) fun v4 =>
  dnB (dnCv r0 11 (fX13_makes r0 p4 p5)) fun _ =>
  dnB (dnGR r0 11 6) fun v6 =>
  dnB (dnAI v6 100 v4) fun v7 =>
  dnB (fX13_isPlain v7) fun v8 =>
  if v8 = true then
  (dnB (dnCv r0 11 (fX13_puts r0 v4 p3)) fun v9 =>
  if v9 = true then
  (dnP 1)
  else
  (dnP (-7)))
  else
  (dnP (-7)))
  else
  (dnP v3))
  else
  (dnP (-1)))
  else
  (dnP (-1))
abbrev jX13_writeDeed (w : dnWd) (x : dnX) (b : Nat) := dnD w x b (fun _ => True) cX13_writeDeed RX13 9 rmX13_writeDeed "writeDeed" eI
set_option maxHeartbeats 4000000 in
set_option maxRecDepth 100000 in
theorem mX13_writeDeed (w : dnWd) (x : dnX) (b : Nat) (r0 : Option Nat) (p1 : Int32) (p2 : Int32) (p3 : Int32) (p4 : Int32) (p5 : Int64) : dnMt w x b yX13_writeDeed cX13_writeDeed 9 (some .int) rmX13_writeDeed eI [dnV b r0, .int p1, .int p2, .int p3, .int p4, .long p5] (fX13_writeDeed r0 p1 p2 p3 p4 p5) := by
  have hlv : lv_args 0 [dnV b r0, .int p1, .int p2, .int p3, .int p4, .long p5] = [(0, dnV b r0), (1, .int p1), (2, .int p2), (3, .int p3), (4, .int p4), (5, .long p5)] := by cases r0 <;> rfl
  refine dn_mt (by decide +kernel) roI (by cases r0 <;> exact (Nat.le_of_ble_eq_true rfl)) ?_
  rw [hlv]
  refine dn_top ?_
  show jX13_writeDeed w x b 0 0 0 _ [] (dnB _ dnP)
  unfold fX13_writeDeed
  refine dn_iload_n (pc := 0) 1 dX13_writeDeed_0 rfl ?_
  refine dn_callS0Z (pc := 1) [.int p1]  kRX13_134 (mX13_isGrid w x b p1) rfl rfl (Nat.le_of_ble_eq_true rfl) ⟨(Nat.le_of_ble_eq_true rfl), (Nat.le_of_ble_eq_true rfl)⟩ ⟨rfl, rfl, (Nat.le_of_ble_eq_true rfl), (Nat.le_of_ble_eq_true rfl)⟩ dX13_writeDeed_1 (fun v1 => ?_)
  refine dn_ifz_eq (pc := 4) 15 dX13_writeDeed_4 rfl (fun _ => ?_) (fun _ => ?_)
  · refine dn_iload (pc := 7) 4 dX13_writeDeed_7 rfl ?_
    refine dn_callS0Z (pc := 9) [.int p4]  kRX13_209 (mX13_isPlain w x b p4) rfl rfl (Nat.le_of_ble_eq_true rfl) ⟨(Nat.le_of_ble_eq_true rfl), (Nat.le_of_ble_eq_true rfl)⟩ ⟨rfl, rfl, (Nat.le_of_ble_eq_true rfl), (Nat.le_of_ble_eq_true rfl)⟩ dX13_writeDeed_9 (fun v2 => ?_)
    refine dn_ifz_ne (pc := 12) 17 dX13_writeDeed_12 rfl (fun _ => ?_) (fun _ => ?_)
    · refine dn_aload_n (pc := 17) r0 0 dX13_writeDeed_17 rfl ?_
      refine dn_iload_n (pc := 18) 1 dX13_writeDeed_18 rfl ?_
      refine dn_iload_n (pc := 19) 2 dX13_writeDeed_19 rfl ?_
      refine dn_iload_n (pc := 20) 3 dX13_writeDeed_20 rfl ?_
      refine dn_callV0I (pc := 21) [.int p1, .int p2, .int p3] r0 kRX13_230 (mX13_cellFault w x b r0 p1 p2 p3) rfl rfl (Nat.le_of_ble_eq_true rfl) ⟨(Nat.le_of_ble_eq_true rfl), (Nat.le_of_ble_eq_true rfl)⟩ ⟨rfl, rfl, (Nat.le_of_ble_eq_true rfl), (Nat.le_of_ble_eq_true rfl)⟩ dX13_writeDeed_21 (fun v3 => ?_)
      refine dn_istore (pc := 24) dX13_writeDeed_24 (Nat.le_of_ble_eq_true rfl) (dnKp_of (lv2 := [(0, dnV b r0), (1, .int p1), (2, .int p2), (3, .int p3), (4, .int p4), (5, .long p5)]) [0, 1, 2, 3, 4, 5] rfl rfl) ?_
      refine dn_iload (pc := 26) 0 dX13_writeDeed_26 rfl ?_
      refine dn_if_eq (pc := 28) 34 dX13_writeDeed_28 rfl (fun _ => ?_) (fun _ => ?_)
      · refine dn_aload_n (pc := 34) r0 1 dX13_writeDeed_34 rfl ?_
        refine dn_iload_n (pc := 35) 2 dX13_writeDeed_35 rfl ?_
        refine dn_iload_n (pc := 36) 3 dX13_writeDeed_36 rfl ?_
        refine dn_callV0I (pc := 37) [.int p1, .int p2] r0 kRX13_128 (mX13_held w x b r0 p1 p2) rfl rfl (Nat.le_of_ble_eq_true rfl) ⟨(Nat.le_of_ble_eq_true rfl), (Nat.le_of_ble_eq_true rfl)⟩ ⟨rfl, rfl, (Nat.le_of_ble_eq_true rfl), (Nat.le_of_ble_eq_true rfl)⟩ dX13_writeDeed_37 (fun v4 => ?_)
        refine dn_istore (pc := 40) dX13_writeDeed_40 (Nat.le_of_ble_eq_true rfl) (dnKp_of (lv2 := [(0, dnV b r0), (3, .int p3), (4, .int p4), (5, .long p5)]) [1, 4, 5, 6] rfl rfl) ?_
        refine dn_aload_n (pc := 42) r0 1 dX13_writeDeed_42 rfl ?_
        refine dn_iload (pc := 43) 3 dX13_writeDeed_43 rfl ?_
        refine dn_lload (pc := 45) 4 dX13_writeDeed_45 rfl ?_
        refine dn_callV0U (pc := 47) [.int p4, .long p5] r0 kRX13_250 (mX13_makes w x b r0 p4 p5) rfl rfl (Nat.le_of_ble_eq_true rfl) ⟨(Nat.le_of_ble_eq_true rfl), (Nat.le_of_ble_eq_true rfl)⟩ ⟨rfl, rfl, (Nat.le_of_ble_eq_true rfl), (Nat.le_of_ble_eq_true rfl)⟩ dX13_writeDeed_47 (fun _ => ?_)
        refine dn_aload_n (pc := 50) r0 1 dX13_writeDeed_50 rfl ?_
        refine dn_getR (pc := 51) r0 lRX13_23 dX13_writeDeed_51 (fun v6 => ?_)
        refine dn_iload (pc := 54) 0 dX13_writeDeed_54 rfl ?_
        refine dn_iald (pc := 56) v6 dX13_writeDeed_56 (fun v7 => ?_)
        refine dn_callS0Z (pc := 57) [.int v7]  kRX13_209 (mX13_isPlain w x b v7) rfl rfl (Nat.le_of_ble_eq_true rfl) ⟨(Nat.le_of_ble_eq_true rfl), (Nat.le_of_ble_eq_true rfl)⟩ ⟨rfl, rfl, (Nat.le_of_ble_eq_true rfl), (Nat.le_of_ble_eq_true rfl)⟩ dX13_writeDeed_57 (fun v8 => ?_)
        refine dn_ifz_eq (pc := 60) 77 dX13_writeDeed_60 rfl (fun _ => ?_) (fun _ => ?_)
        · refine dn_aload_n (pc := 63) r0 1 dX13_writeDeed_63 rfl ?_
          refine dn_iload (pc := 64) 0 dX13_writeDeed_64 rfl ?_
          refine dn_iload_n (pc := 66) 2 dX13_writeDeed_66 rfl ?_
          refine dn_callV0Z (pc := 67) [.int v4, .int p3] r0 kRX13_254 (mX13_puts w x b r0 v4 p3) rfl rfl (Nat.le_of_ble_eq_true rfl) ⟨(Nat.le_of_ble_eq_true rfl), (Nat.le_of_ble_eq_true rfl)⟩ ⟨rfl, rfl, (Nat.le_of_ble_eq_true rfl), (Nat.le_of_ble_eq_true rfl)⟩ dX13_writeDeed_67 (fun v9 => ?_)
          refine dn_ifz_eq (pc := 70) 77 dX13_writeDeed_70 rfl (fun _ => ?_) (fun _ => ?_)
          · refine dn_iconst (pc := 73) (v := 1) dX13_writeDeed_73 rfl ?_
            refine dn_goto (pc := 74) 79 dX13_writeDeed_74 rfl ?_
            exact dn_ret (Nat.le_of_ble_eq_true rfl) (Nat.le_of_ble_eq_true rfl) rfl dX13_writeDeed_79
          · refine dn_bipush (pc := 77) (v := -7) dX13_writeDeed_77 rfl ?_
            exact dn_ret (Nat.le_of_ble_eq_true rfl) (Nat.le_of_ble_eq_true rfl) rfl dX13_writeDeed_79
        · refine dn_bipush (pc := 77) (v := -7) dX13_writeDeed_77 rfl ?_
          exact dn_ret (Nat.le_of_ble_eq_true rfl) (Nat.le_of_ble_eq_true rfl) rfl dX13_writeDeed_79
      · refine dn_iload (pc := 31) 0 dX13_writeDeed_31 rfl ?_
        exact dn_ret (Nat.le_of_ble_eq_true rfl) (Nat.le_of_ble_eq_true rfl) rfl dX13_writeDeed_33
    · refine dn_iconst (pc := 15) (v := -1) dX13_writeDeed_15 rfl ?_
      exact dn_ret (Nat.le_of_ble_eq_true rfl) (Nat.le_of_ble_eq_true rfl) rfl dX13_writeDeed_16
  · refine dn_iconst (pc := 15) (v := -1) dX13_writeDeed_15 rfl ?_
    exact dn_ret (Nat.le_of_ble_eq_true rfl) (Nat.le_of_ble_eq_true rfl) rfl dX13_writeDeed_16
