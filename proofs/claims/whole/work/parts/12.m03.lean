abbrev rmX7_tryBlocks : Room := { frames := 2, cells := 0, slots := 0, locals := 45 }
def fX7_tryBlocks_j162 (l0 : Option Nat) (l1 : Int32) (l2 : Int32) (l3 : Int32) (l4 : Int32) (l5 : Int32) (l6 : Option Nat) (l7 : Int64) (l9 : Int32) : dnM ((Int64 × Int32) ⊕ (Unit)) :=
  dnP (.inl (l7, (l9 + 1)))
def fX7_tryBlocks_j133 (l0 : Option Nat) (l1 : Int32) (l2 : Int32) (l3 : Int32) (l4 : Int32) (l5 : Int32) (l6 : Option Nat) (l7 : Int64) (l9 : Int32) : dnM ((Int64 × Int32) ⊕ (Unit)) :=
  dnB (dnPI l0 6 6 ((((1000000 * l2) + (10000 * l3)) + (100 * l5)) + l9)) fun _ =>
  dnB (dnPL l0 6 5 l7) fun _ =>
  fX7_tryBlocks_j162 l0 l1 l2 l3 l4 l5 l6 l7 l9
def fX7_tryBlocks_b77 (c0 : Option Nat) (c1 : Int32) (c2 : Int32) (c3 : Int32) (c4 : Int32) (c5 : Int32) (c6 : Option Nat) (s77 : Int64 × Int32) : dnM ((Int64 × Int32) ⊕ (Unit)) :=
  if c4 ≤ s77.2 then
  (dnP (.inr ()))
  else
  (dnB (dnGR c0 6 4) fun v13 =>
  dnB (dnAL v13 102 s77.2) fun v14 =>
  dnB (dnGR c6 4 4) fun v15 =>
  dnB (dnAL v15 102 s77.2) fun v16 =>
  dnB (dnTL v13 102 s77.2 (v14 + v16)) fun _ =>
  dnB (dnGR c0 6 4) fun v17 =>
  dnB (dnAL v17 102 s77.2) fun v18 =>
  dnB (dnGI c0 6 6) fun v19 =>
  if v19 = (-9) then
  (fX7_tryBlocks_j133 c0 c1 c2 c3 c4 c5 c6 (s77.1 + v18) s77.2)
  else
  (dnB (dnGL c0 6 5) fun v20 =>
  if (lg_cmp (s77.1 + v18) v20) ≤ 0 then
  (fX7_tryBlocks_j162 c0 c1 c2 c3 c4 c5 c6 (s77.1 + v18) s77.2)
  else
  (fX7_tryBlocks_j133 c0 c1 c2 c3 c4 c5 c6 (s77.1 + v18) s77.2)))
def fX7_tryBlocks_b15 (c0 : Option Nat) (c1 : Int32) (c2 : Int32) (c3 : Int32) (s15 : Int32 × Int32) : dnM ((Int32 × Int32) ⊕ ((Unit) ⊕ Unit)) :=
  dnB (dnGR c0 6 0) fun v3 =>
  dnB (dnGR v3 7 0) fun v4 =>
  dnB (dnAI v4 100 c1) fun v5 =>
  if v5 ≤ s15.2 then
  (dnP (.inr (.inl ())))
  else
  (dnB (dnGR c0 6 0) fun v6 =>
  dnB (dnCv v6 7 (fX9_rowAt v6 c1 s15.2)) fun v7 =>
  v7.elim
  (dnP (.inr (.inr ())))
  (fun v8 => dnB (dnGI (some v8) 4 1) fun v9 =>
  dnB (fX12_readsAs v9 4) fun v10 =>
  if v10 = true then
  (dnB (dnGI (some v8) 4 2) fun v11 =>
  dnB (fJ9_min_7cf53 s15.1 v11) fun v12 =>
  dnB (dnIt 1000 (fX7_tryBlocks_b77 c0 c1 c2 c3 v12 s15.2 (some v8)) (0, c3)) fun q77 =>
  dnP (.inl (v12, (s15.2 + 1))))
  else
  (dnP (.inr (.inr ())))))
def fX7_tryBlocks (r0 : Option Nat) (p1 : Int32) (p2 : Int32) (p3 : Int32) : dnM Unit :=
  dnB (dnGR r0 6 4) fun v1 =>
  dnB (fJ7_fill_d0a16 v1 0) fun _ =>
  dnB (dnIt 1000 (fX7_tryBlocks_b15 r0 p1 p2 p3) (12, p2)) fun q_ => q_.elim (fun q15 => dnP ()) (fun v_ => dnP v_)
abbrev jX7_tryBlocks (w : dnWd) (x : dnX) (b : Nat) := dnD w x b (fun _ => True) cX7_tryBlocks RX7 10 rmX7_tryBlocks "tryBlocks" eU
set_option maxHeartbeats 4000000 in
set_option maxRecDepth 100000 in
theorem mX7_tryBlocks (w : dnWd) (x : dnX) (b : Nat) (r0 : Option Nat) (p1 : Int32) (p2 : Int32) (p3 : Int32) : dnMt w x b yX7_tryBlocks cX7_tryBlocks 10 none rmX7_tryBlocks eU [dnV b r0, .int p1, .int p2, .int p3] (fX7_tryBlocks r0 p1 p2 p3) := by
  have hlv : lv_args 0 [dnV b r0, .int p1, .int p2, .int p3] = [(0, dnV b r0), (1, .int p1), (2, .int p2), (3, .int p3)] := by cases r0 <;> rfl
  refine dn_mt (by decide +kernel) roU (by cases r0 <;> exact (Nat.le_of_ble_eq_true rfl)) ?_
  rw [hlv]
  refine dn_top ?_
  show jX7_tryBlocks w x b 0 0 0 _ [] (dnB _ dnP)
  unfold fX7_tryBlocks
  refine dn_aload_n (pc := 0) r0 0 dX7_tryBlocks_0 rfl ?_
  refine dn_getR (pc := 1) r0 lRX7_18 dX7_tryBlocks_1 (fun v1 => ?_)
  refine dn_lconst (pc := 4) (v := 0) dX7_tryBlocks_4 rfl ?_
  refine dn_callS0U (pc := 5) [dnV b v1, .long 0]  kRX7_107 (mJ7_fill_d0a16 w x b v1 0) rfl rfl (Nat.le_of_ble_eq_true rfl) ⟨(Nat.le_of_ble_eq_true rfl), (Nat.le_of_ble_eq_true rfl)⟩ ⟨rfl, rfl, (Nat.le_of_ble_eq_true rfl), (Nat.le_of_ble_eq_true rfl)⟩ dX7_tryBlocks_5 (fun _ => ?_)
  refine dn_bipush (pc := 8) (v := 12) dX7_tryBlocks_8 rfl ?_
  refine dn_istore (pc := 10) dX7_tryBlocks_10 (Nat.le_of_ble_eq_true rfl) (dnKp_nb 3 rfl rfl rfl (dnKp_of (lv2 := [(0, dnV b r0), (1, .int p1), (2, .int p2)]) [0, 1, 2] rfl rfl)) ?_
  refine dn_iload_n (pc := 12) 4 dX7_tryBlocks_12 rfl ?_
  refine dn_istore (pc := 13) dX7_tryBlocks_13 (Nat.le_of_ble_eq_true rfl) (dnKp_nb 0 rfl rfl rfl (dnKp_of (lv2 := [(3, .int p3), (0, dnV b r0), (1, .int p1), (2, .int p2)]) [1, 2, 3, 4] rfl rfl)) ?_
  refine dn_assoc ?_
  refine dn_lv [3, 4, 5, 2, 1, 0] (lv2 := (fun s => [(0, dnV b r0), (1, .int p1), (2, .int p2), (3, .int p3), (4, .int s.1), (5, .int s.2)]) (12, p2)) rfl ?_
  refine dn_loopR (pc := 15) (body := fX7_tryBlocks_b15 r0 p1 p2 p3) 174 (fun s => [(0, dnV b r0), (1, .int p1), (2, .int p2), (3, .int p3), (4, .int s.1), (5, .int s.2)]) (fun q => []) (fun s15 K15 E15 hK15 hE15 hR15 => ?_) (dn_rt (Nat.le_of_ble_eq_true rfl) (Nat.le_of_ble_eq_true rfl) (fun _ => rfl)) (fun q15 => ?_) 1000 (12, p2)
  · unfold fX7_tryBlocks_b15
    refine dn_iload (pc := 15) 5 dX7_tryBlocks_15 rfl ?_
    refine dn_aload_n (pc := 17) r0 0 dX7_tryBlocks_17 rfl ?_
    refine dn_getR (pc := 18) r0 lRX7_21 dX7_tryBlocks_18 (fun v3 => ?_)
    refine dn_getR (pc := 21) v3 lRX7_43 dX7_tryBlocks_21 (fun v4 => ?_)
    refine dn_iload_n (pc := 24) 1 dX7_tryBlocks_24 rfl ?_
    refine dn_iald (pc := 25) v4 dX7_tryBlocks_25 (fun v5 => ?_)
    refine dn_icmp_ge (pc := 26) 174 dX7_tryBlocks_26 rfl (fun _ => ?_) (fun _ => ?_)
    · refine dn_leaf ?_
      exact dn_lv [] rfl (hE15 ())
    · refine dn_aload_n (pc := 29) r0 0 dX7_tryBlocks_29 rfl ?_
      refine dn_getR (pc := 30) r0 lRX7_21 dX7_tryBlocks_30 (fun v6 => ?_)
      refine dn_iload_n (pc := 33) 1 dX7_tryBlocks_33 rfl ?_
      refine dn_iload (pc := 34) 5 dX7_tryBlocks_34 rfl ?_
      refine dn_callV0R (pc := 36) [.int p1, .int s15.2] v6 kRX7_47 (mX9_rowAt w x b v6 p1 s15.2) rfl rfl (Nat.le_of_ble_eq_true rfl) ⟨(Nat.le_of_ble_eq_true rfl), (Nat.le_of_ble_eq_true rfl)⟩ ⟨rfl, rfl, (Nat.le_of_ble_eq_true rfl), (Nat.le_of_ble_eq_true rfl)⟩ dX7_tryBlocks_36 (fun v7 => ?_)
      refine dn_astore (pc := 39) v7 dX7_tryBlocks_39 (Nat.le_of_ble_eq_true rfl) (dnKp_nb 5 rfl rfl rfl (dnKp_of (lv2 := [(0, dnV b r0), (1, .int p1), (2, .int p2), (3, .int p3), (4, .int s15.1)]) [0, 1, 2, 3, 4] rfl rfl)) ?_
      refine dn_aload (pc := 41) v7 0 dX7_tryBlocks_41 rfl ?_
      refine dn_ifnull (pc := 43) v7 58 dX7_tryBlocks_43 rfl (fun e_ => ?_) (fun v8 e_ => ?_)
      · subst e_
        refine dn_leaf ?_
        exact hR15 () _ _ _ rfl dX7_tryBlocks_58
      · subst e_
        refine dn_aload (pc := 46) (some v8) 0 dX7_tryBlocks_46 rfl ?_
        refine dn_getI (pc := 48) (some v8) lRX7_113 dX7_tryBlocks_48 (fun v9 => ?_)
        refine dn_iconst (pc := 51) (v := 4) dX7_tryBlocks_51 rfl ?_
        refine dn_callSN0Z (pc := 52) [.int v9, .int 4]  kRX7_116 (mX12_readsAs w x b v9 4) rfl rfl (Nat.le_of_ble_eq_true rfl) ⟨(Nat.le_of_ble_eq_true rfl), (Nat.le_of_ble_eq_true rfl)⟩ ⟨rfl, rfl, (Nat.le_of_ble_eq_true rfl), (Nat.le_of_ble_eq_true rfl)⟩ dX7_tryBlocks_52 (fun v10 => ?_)
        refine dn_ifz_ne (pc := 55) 59 dX7_tryBlocks_55 rfl (fun _ => ?_) (fun _ => ?_)
        · refine dn_iload (pc := 59) 6 dX7_tryBlocks_59 rfl ?_
          refine dn_aload (pc := 61) (some v8) 0 dX7_tryBlocks_61 rfl ?_
          refine dn_getI (pc := 63) (some v8) lRX7_55 dX7_tryBlocks_63 (fun v11 => ?_)
          refine dn_callS0I (pc := 66) [.int s15.1, .int v11]  kRX7_120 (mJ9_min_7cf53 w x b s15.1 v11) rfl rfl (Nat.le_of_ble_eq_true rfl) ⟨(Nat.le_of_ble_eq_true rfl), (Nat.le_of_ble_eq_true rfl)⟩ ⟨rfl, rfl, (Nat.le_of_ble_eq_true rfl), (Nat.le_of_ble_eq_true rfl)⟩ dX7_tryBlocks_66 (fun v12 => ?_)
          refine dn_istore (pc := 69) dX7_tryBlocks_69 (Nat.le_of_ble_eq_true rfl) (dnKp_nb 5 rfl rfl rfl (dnKp_of (lv2 := [(6, dnV b (some v8)), (5, .int s15.2), (0, dnV b r0), (1, .int p1), (2, .int p2)]) [0, 1, 2, 3, 4] rfl rfl)) ?_
          refine dn_lconst (pc := 71) (v := 0) dX7_tryBlocks_71 rfl ?_
          refine dn_lstore (pc := 72) dX7_tryBlocks_72 (Nat.le_of_ble_eq_true rfl) (dnKp_nb 2 rfl (dn_cat b _) rfl (dnKp_of (lv2 := [(4, .int v12), (3, .int p3), (5, .int s15.2), (0, dnV b r0), (1, .int p1), (2, .int p2)]) [0, 1, 3, 4, 5, 6] rfl rfl)) ?_
          refine dn_iload_n (pc := 74) 3 dX7_tryBlocks_74 rfl ?_
          refine dn_istore (pc := 75) dX7_tryBlocks_75 (Nat.le_of_ble_eq_true rfl) (dnKp_of (lv2 := [(7, .long 0), (6, dnV b (some v8)), (4, .int v12), (3, .int p3), (5, .int s15.2), (0, dnV b r0), (1, .int p1), (2, .int p2)]) [0, 1, 2, 3, 4, 5, 6, 7] rfl rfl) ?_
          refine dn_assoc ?_
          refine dn_lv [6, 7, 8, 4, 3, 5, 2, 1, 0] (lv2 := (fun s => [(0, dnV b r0), (1, .int p1), (2, .int p2), (3, .int p3), (4, .int v12), (5, .int s15.2), (6, dnV b (some v8)), (7, .long s.1), (9, .int s.2)]) (0, p3)) rfl ?_
          refine dn_loopE (pc := 77) (body := fX7_tryBlocks_b77 r0 p1 p2 p3 v12 s15.2 (some v8)) 168 (fun s => [(0, dnV b r0), (1, .int p1), (2, .int p2), (3, .int p3), (4, .int v12), (5, .int s15.2), (6, dnV b (some v8)), (7, .long s.1), (9, .int s.2)]) (fun q => [(0, dnV b r0), (1, .int p1), (2, .int p2), (3, .int p3), (4, .int v12), (5, .int s15.2)]) (fun s77 K77 E77 hK77 hE77 => ?_) (fun q77 => ?_) 1000 (0, p3)
          · unfold fX7_tryBlocks_b77
            have hj162 : ∀ (l7 : Int64) (l9 : Int32), jX7_tryBlocks w x b 162 0 0 [(0, dnV b r0), (1, .int p1), (2, .int p2), (3, .int p3), (4, .int v12), (5, .int s15.2), (6, dnV b (some v8)), (7, .long l7), (9, .int l9)] [] (dnB (fX7_tryBlocks_j162 r0 p1 p2 p3 v12 s15.2 (some v8) l7 l9) (dnKo K77 E77)) := by
              intro l7 l9
              unfold fX7_tryBlocks_j162
              refine dn_iinc (pc := 162) (l9 + 1) 8 dX7_tryBlocks_162 rfl rfl (Nat.le_of_ble_eq_true rfl) (dnKp_of (lv2 := [(0, dnV b r0), (1, .int p1), (2, .int p2), (3, .int p3), (4, .int v12), (5, .int s15.2), (6, dnV b (some v8)), (7, .long l7)]) [0, 1, 2, 3, 4, 5, 6, 7] rfl rfl) ?_
              refine dn_goto (pc := 165) 77 dX7_tryBlocks_165 rfl ?_
              refine dn_leaf ?_
              exact dn_lv [1, 2, 3, 4, 5, 6, 7, 8, 0] rfl (hK77 (l7, (l9 + 1)))
            have hj133 : ∀ (l7 : Int64) (l9 : Int32), jX7_tryBlocks w x b 133 0 0 [(0, dnV b r0), (1, .int p1), (2, .int p2), (3, .int p3), (4, .int v12), (5, .int s15.2), (6, dnV b (some v8)), (7, .long l7), (9, .int l9)] [] (dnB (fX7_tryBlocks_j133 r0 p1 p2 p3 v12 s15.2 (some v8) l7 l9) (dnKo K77 E77)) := by
              intro l7 l9
              unfold fX7_tryBlocks_j133
              refine dn_aload_n (pc := 133) r0 0 dX7_tryBlocks_133 rfl ?_
              refine dn_ldc (pc := 134) kRX7_123 dX7_tryBlocks_134 ?_
              refine dn_iload_n (pc := 136) 2 dX7_tryBlocks_136 rfl ?_
              refine dn_imul (pc := 137) dX7_tryBlocks_137 ?_
              refine dn_sipush (pc := 138) (v := 10000) dX7_tryBlocks_138 rfl ?_
              refine dn_iload_n (pc := 141) 3 dX7_tryBlocks_141 rfl ?_
              refine dn_imul (pc := 142) dX7_tryBlocks_142 ?_
              refine dn_iadd (pc := 143) dX7_tryBlocks_143 ?_
              refine dn_bipush (pc := 144) (v := 100) dX7_tryBlocks_144 rfl ?_
              refine dn_iload (pc := 146) 5 dX7_tryBlocks_146 rfl ?_
              refine dn_imul (pc := 148) dX7_tryBlocks_148 ?_
              refine dn_iadd (pc := 149) dX7_tryBlocks_149 ?_
              refine dn_iload (pc := 150) 8 dX7_tryBlocks_150 rfl ?_
              refine dn_iadd (pc := 152) dX7_tryBlocks_152 ?_
              refine dn_putI (pc := 153) r0 lRX7_97 dX7_tryBlocks_153 ?_
              refine dn_aload_n (pc := 156) r0 0 dX7_tryBlocks_156 rfl ?_
              refine dn_lload (pc := 157) 7 dX7_tryBlocks_157 rfl ?_
              refine dn_putL (pc := 159) r0 lRX7_104 dX7_tryBlocks_159 ?_
              exact dn_lv [0, 1, 2, 3, 4, 5, 6, 7, 8] rfl (hj162 l7 l9)
            refine dn_iload (pc := 77) 8 dX7_tryBlocks_77 rfl ?_
            refine dn_iload (pc := 79) 4 dX7_tryBlocks_79 rfl ?_
            refine dn_icmp_ge (pc := 81) 168 dX7_tryBlocks_81 rfl (fun _ => ?_) (fun _ => ?_)
            · refine dn_leaf ?_
              exact dn_lv [0, 1, 2, 3, 4, 5] rfl (hE77 ())
            · refine dn_aload_n (pc := 84) r0 0 dX7_tryBlocks_84 rfl ?_
              refine dn_getR (pc := 85) r0 lRX7_18 dX7_tryBlocks_85 (fun v13 => ?_)
              refine dn_iload (pc := 88) 8 dX7_tryBlocks_88 rfl ?_
              refine dn_dup2_11 (pc := 90) dX7_tryBlocks_90 rfl (dn_cat b _) ?_
              refine dn_lald (pc := 91) v13 dX7_tryBlocks_91 (fun v14 => ?_)
              refine dn_aload (pc := 92) (some v8) 6 dX7_tryBlocks_92 rfl ?_
              refine dn_getR (pc := 94) (some v8) lRX7_77 dX7_tryBlocks_94 (fun v15 => ?_)
              refine dn_iload (pc := 97) 8 dX7_tryBlocks_97 rfl ?_
              refine dn_lald (pc := 99) v15 dX7_tryBlocks_99 (fun v16 => ?_)
              refine dn_ladd (pc := 100) dX7_tryBlocks_100 ?_
              refine dn_last (pc := 101) v13 dX7_tryBlocks_101 ?_
              refine dn_lload (pc := 102) 7 dX7_tryBlocks_102 rfl ?_
              refine dn_aload_n (pc := 104) r0 0 dX7_tryBlocks_104 rfl ?_
              refine dn_getR (pc := 105) r0 lRX7_18 dX7_tryBlocks_105 (fun v17 => ?_)
              refine dn_iload (pc := 108) 8 dX7_tryBlocks_108 rfl ?_
              refine dn_lald (pc := 110) v17 dX7_tryBlocks_110 (fun v18 => ?_)
              refine dn_ladd (pc := 111) dX7_tryBlocks_111 ?_
              refine dn_lstore (pc := 112) dX7_tryBlocks_112 (Nat.le_of_ble_eq_true rfl) (dnKp_nb 6 rfl (dn_cat b _) rfl (dnKp_of (lv2 := [(0, dnV b r0), (1, .int p1), (2, .int p2), (3, .int p3), (4, .int v12), (5, .int s15.2), (9, .int s77.2)]) [0, 1, 2, 3, 4, 5, 8] rfl rfl)) ?_
              refine dn_aload_n (pc := 114) r0 2 dX7_tryBlocks_114 rfl ?_
              refine dn_getI (pc := 115) r0 lRX7_97 dX7_tryBlocks_115 (fun v19 => ?_)
              refine dn_bipush (pc := 118) (v := -9) dX7_tryBlocks_118 rfl ?_
              refine dn_icmp_eq (pc := 120) 133 dX7_tryBlocks_120 rfl (fun _ => ?_) (fun _ => ?_)
              · exact dn_lv [2, 3, 4, 5, 6, 7, 1, 0, 8] rfl (hj133 (s77.1 + v18) s77.2)
              · refine dn_lload (pc := 123) 0 dX7_tryBlocks_123 rfl ?_
                refine dn_aload_n (pc := 125) r0 2 dX7_tryBlocks_125 rfl ?_
                refine dn_getL (pc := 126) r0 lRX7_104 dX7_tryBlocks_126 (fun v20 => ?_)
                refine dn_lcmp (pc := 129) dX7_tryBlocks_129 ?_
                refine dn_if_le (pc := 130) 162 dX7_tryBlocks_130 rfl (fun _ => ?_) (fun _ => ?_)
                · exact dn_lv [2, 3, 4, 5, 6, 7, 1, 0, 8] rfl (hj162 (s77.1 + v18) s77.2)
                · exact dn_lv [2, 3, 4, 5, 6, 7, 1, 0, 8] rfl (hj133 (s77.1 + v18) s77.2)
          · refine dn_iinc (pc := 168) (s15.2 + 1) 5 dX7_tryBlocks_168 rfl rfl (Nat.le_of_ble_eq_true rfl) (dnKp_nb 4 rfl rfl rfl (dnKp_of (lv2 := [(0, dnV b r0), (1, .int p1), (2, .int p2), (3, .int p3)]) [0, 1, 2, 3] rfl rfl)) ?_
            refine dn_goto (pc := 171) 15 dX7_tryBlocks_171 rfl ?_
            refine dn_leaf ?_
            exact dn_lv [2, 3, 4, 5, 1, 0] rfl (hK15 (v12, (s15.2 + 1)))
        · refine dn_leaf ?_
          exact hR15 () _ _ _ rfl dX7_tryBlocks_58
  · dsimp only [Sum.elim_inl]
    exact dn_ret (Nat.le_of_ble_eq_true rfl) (Nat.le_of_ble_eq_true rfl) rfl dX7_tryBlocks_174
abbrev rmX7_bestBlock : Room := { frames := 3, cells := 0, slots := 0, locals := 74 }
def fX7_bestBlock_j86 (l0 : Option Nat) : dnM Int32 :=
  dnB (dnGI l0 6 6) fun v1 =>
  dnP v1
def fX7_bestBlock_b39 (c0 : Option Nat) (c1 : Int32) (c3 : Int32) (s39 : Int32) : dnM ((Int32) ⊕ (Unit)) :=
  if 12 ≤ s39 then
  (dnP (.inr ()))
  else
  (dnB (dnCv c0 6 (fX7_tryBlocks c0 c1 c3 s39)) fun _ =>
  dnP (.inl (s39 + 1)))
def fX7_bestBlock_b23 (c0 : Option Nat) (c1 : Int32) (s23 : Int32) : dnM ((Int32) ⊕ (Unit)) :=
  dnB (dnGR c0 6 0) fun v4 =>
  dnB (dnGR v4 7 0) fun v5 =>
  dnB (dnAI v5 100 c1) fun v6 =>
  if v6 ≤ s23 then
  (dnP (.inr ()))
  else
  (dnB (dnIt 1000 (fX7_bestBlock_b39 c0 c1 s23) 0) fun q39 =>
  dnP (.inl (s23 + 1)))
def fX7_bestBlock (r0 : Option Nat) (p1 : Int32) : dnM Int32 :=
  dnB (dnGR r0 6 0) fun v2 =>
  dnB (dnCv v2 7 (fX9_gridFault v2 p1)) fun v3 =>
  if 0 ≤ v3 then
  (dnB (dnPI r0 6 6 (-9)) fun _ =>
  dnB (dnIt 1000 (fX7_bestBlock_b23 r0 p1) 0) fun q23 =>
  dnB (dnGI r0 6 6) fun v8 =>
  if v8 = (-9) then
  (fX7_bestBlock_j86 r0)
  else
  (dnB (dnGR r0 6 1) fun v9 =>
  dnB (dnGL r0 6 5) fun v10 =>
  dnB (dnPL v9 1 0 v10) fun _ =>
  fX7_bestBlock_j86 r0))
  else
  (dnP v3)
abbrev jX7_bestBlock (w : dnWd) (x : dnX) (b : Nat) := dnD w x b (fun _ => True) cX7_bestBlock RX7 5 rmX7_bestBlock "bestBlock" eI
set_option maxHeartbeats 4000000 in
set_option maxRecDepth 100000 in
theorem mX7_bestBlock (w : dnWd) (x : dnX) (b : Nat) (r0 : Option Nat) (p1 : Int32) : dnMt w x b yX7_bestBlock cX7_bestBlock 5 (some .int) rmX7_bestBlock eI [dnV b r0, .int p1] (fX7_bestBlock r0 p1) := by
  have hlv : lv_args 0 [dnV b r0, .int p1] = [(0, dnV b r0), (1, .int p1)] := by cases r0 <;> rfl
  refine dn_mt (by decide +kernel) roI (by cases r0 <;> exact (Nat.le_of_ble_eq_true rfl)) ?_
  rw [hlv]
  refine dn_top ?_
  show jX7_bestBlock w x b 0 0 0 _ [] (dnB _ dnP)
  unfold fX7_bestBlock
  have hj86 : ∀ (l0 : Option Nat), jX7_bestBlock w x b 86 0 0 [(0, dnV b l0)] [] (dnB (fX7_bestBlock_j86 l0) dnP) := by
    intro l0
    unfold fX7_bestBlock_j86
    refine dn_aload_n (pc := 86) l0 0 dX7_bestBlock_86 rfl ?_
    refine dn_getI (pc := 87) l0 lRX7_97 dX7_bestBlock_87 (fun v1 => ?_)
    exact dn_ret (Nat.le_of_ble_eq_true rfl) (Nat.le_of_ble_eq_true rfl) rfl dX7_bestBlock_90
  refine dn_aload_n (pc := 0) r0 0 dX7_bestBlock_0 rfl ?_
  refine dn_getR (pc := 1) r0 lRX7_21 dX7_bestBlock_1 (fun v2 => ?_)
  refine dn_iload_n (pc := 4) 1 dX7_bestBlock_4 rfl ?_
  refine dn_callV0I (pc := 5) [.int p1] v2 kRX7_29 (mX9_gridFault w x b v2 p1) rfl rfl (Nat.le_of_ble_eq_true rfl) ⟨(Nat.le_of_ble_eq_true rfl), (Nat.le_of_ble_eq_true rfl)⟩ ⟨rfl, rfl, (Nat.le_of_ble_eq_true rfl), (Nat.le_of_ble_eq_true rfl)⟩ dX7_bestBlock_5 (fun v3 => ?_)
  refine dn_istore_n (pc := 8) dX7_bestBlock_8 (Nat.le_of_ble_eq_true rfl) (dnKp_nb 1 rfl rfl rfl (dnKp_of (lv2 := [(0, dnV b r0)]) [0] rfl rfl)) ?_
  refine dn_iload_n (pc := 9) 0 dX7_bestBlock_9 rfl ?_
  refine dn_if_ge (pc := 10) 15 dX7_bestBlock_10 rfl (fun _ => ?_) (fun _ => ?_)
  · refine dn_aload_n (pc := 15) r0 2 dX7_bestBlock_15 rfl ?_
    refine dn_bipush (pc := 16) (v := -9) dX7_bestBlock_16 rfl ?_
    refine dn_putI (pc := 18) r0 lRX7_97 dX7_bestBlock_18 ?_
    refine dn_iconst (pc := 21) (v := 0) dX7_bestBlock_21 rfl ?_
    refine dn_istore_n (pc := 22) dX7_bestBlock_22 (Nat.le_of_ble_eq_true rfl) (dnKp_of (lv2 := [(1, .int p1), (0, dnV b r0)]) [1, 2] rfl rfl) ?_
    refine dn_assoc ?_
    refine dn_lv [2, 1, 0] (lv2 := (fun s => [(0, dnV b r0), (1, .int p1), (3, .int s)]) 0) rfl ?_
    refine dn_loopE (pc := 23) (body := fX7_bestBlock_b23 r0 p1) 66 (fun s => [(0, dnV b r0), (1, .int p1), (3, .int s)]) (fun q => [(0, dnV b r0)]) (fun s23 K23 E23 hK23 hE23 => ?_) (fun q23 => ?_) 1000 0
    · unfold fX7_bestBlock_b23
      refine dn_iload_n (pc := 23) 2 dX7_bestBlock_23 rfl ?_
      refine dn_aload_n (pc := 24) r0 0 dX7_bestBlock_24 rfl ?_
      refine dn_getR (pc := 25) r0 lRX7_21 dX7_bestBlock_25 (fun v4 => ?_)
      refine dn_getR (pc := 28) v4 lRX7_43 dX7_bestBlock_28 (fun v5 => ?_)
      refine dn_iload_n (pc := 31) 1 dX7_bestBlock_31 rfl ?_
      refine dn_iald (pc := 32) v5 dX7_bestBlock_32 (fun v6 => ?_)
      refine dn_icmp_ge (pc := 33) 66 dX7_bestBlock_33 rfl (fun _ => ?_) (fun _ => ?_)
      · refine dn_leaf ?_
        exact dn_lv [0] rfl (hE23 ())
      · refine dn_iconst (pc := 36) (v := 0) dX7_bestBlock_36 rfl ?_
        refine dn_istore (pc := 37) dX7_bestBlock_37 (Nat.le_of_ble_eq_true rfl) (dnKp_nb 2 rfl rfl rfl (dnKp_of (lv2 := [(0, dnV b r0), (1, .int p1)]) [0, 1] rfl rfl)) ?_
        refine dn_assoc ?_
        refine dn_lv [2, 3, 1, 0] (lv2 := (fun s => [(0, dnV b r0), (1, .int p1), (3, .int s23), (4, .int s)]) 0) rfl ?_
        refine dn_loopE (pc := 39) (body := fX7_bestBlock_b39 r0 p1 s23) 60 (fun s => [(0, dnV b r0), (1, .int p1), (3, .int s23), (4, .int s)]) (fun q => [(0, dnV b r0), (1, .int p1), (3, .int s23)]) (fun s39 K39 E39 hK39 hE39 => ?_) (fun q39 => ?_) 1000 0
        · unfold fX7_bestBlock_b39
          refine dn_iload (pc := 39) 3 dX7_bestBlock_39 rfl ?_
          refine dn_bipush (pc := 41) (v := 12) dX7_bestBlock_41 rfl ?_
          refine dn_icmp_ge (pc := 43) 60 dX7_bestBlock_43 rfl (fun _ => ?_) (fun _ => ?_)
          · refine dn_leaf ?_
            exact dn_lv [0, 1, 2] rfl (hE39 ())
          · refine dn_aload_n (pc := 46) r0 0 dX7_bestBlock_46 rfl ?_
            refine dn_iload_n (pc := 47) 1 dX7_bestBlock_47 rfl ?_
            refine dn_iload_n (pc := 48) 2 dX7_bestBlock_48 rfl ?_
            refine dn_iload (pc := 49) 3 dX7_bestBlock_49 rfl ?_
            refine dn_callV0U (pc := 51) [.int p1, .int s23, .int s39] r0 kRX7_100 (mX7_tryBlocks w x b r0 p1 s23 s39) rfl rfl (Nat.le_of_ble_eq_true rfl) ⟨(Nat.le_of_ble_eq_true rfl), (Nat.le_of_ble_eq_true rfl)⟩ ⟨rfl, rfl, (Nat.le_of_ble_eq_true rfl), (Nat.le_of_ble_eq_true rfl)⟩ dX7_bestBlock_51 (fun _ => ?_)
            refine dn_iinc (pc := 54) (s39 + 1) 3 dX7_bestBlock_54 rfl rfl (Nat.le_of_ble_eq_true rfl) (dnKp_nb 2 rfl rfl rfl (dnKp_of (lv2 := [(0, dnV b r0), (1, .int p1)]) [0, 1] rfl rfl)) ?_
            refine dn_goto (pc := 57) 39 dX7_bestBlock_57 rfl ?_
            refine dn_leaf ?_
            exact dn_lv [2, 3, 1, 0] rfl (hK39 (s39 + 1))
        · refine dn_iinc (pc := 60) (s23 + 1) 2 dX7_bestBlock_60 rfl rfl (Nat.le_of_ble_eq_true rfl) (dnKp_of (lv2 := [(0, dnV b r0), (1, .int p1)]) [0, 1] rfl rfl) ?_
          refine dn_goto (pc := 63) 23 dX7_bestBlock_63 rfl ?_
          refine dn_leaf ?_
          exact dn_lv [1, 2, 0] rfl (hK23 (s23 + 1))
    · refine dn_aload_n (pc := 66) r0 0 dX7_bestBlock_66 rfl ?_
      refine dn_getI (pc := 67) r0 lRX7_97 dX7_bestBlock_67 (fun v8 => ?_)
      refine dn_bipush (pc := 70) (v := -9) dX7_bestBlock_70 rfl ?_
      refine dn_icmp_eq (pc := 72) 86 dX7_bestBlock_72 rfl (fun _ => ?_) (fun _ => ?_)
      · exact dn_lv [0] rfl (hj86 r0)
      · refine dn_aload_n (pc := 75) r0 0 dX7_bestBlock_75 rfl ?_
        refine dn_getR (pc := 76) r0 lRX7_25 dX7_bestBlock_76 (fun v9 => ?_)
        refine dn_aload_n (pc := 79) r0 0 dX7_bestBlock_79 rfl ?_
        refine dn_getL (pc := 80) r0 lRX7_104 dX7_bestBlock_80 (fun v10 => ?_)
        refine dn_putL (pc := 83) v9 lRX7_88 dX7_bestBlock_83 ?_
        exact dn_lv [0] rfl (hj86 r0)
  · refine dn_iload_n (pc := 13) 0 dX7_bestBlock_13 rfl ?_
    exact dn_ret (Nat.le_of_ble_eq_true rfl) (Nat.le_of_ble_eq_true rfl) rfl dX7_bestBlock_14
abbrev rmX12_block : Room := { frames := 4, cells := 0, slots := 0, locals := 98 }
def fX12_block (r0 : Option Nat) (p1 : Int32) : dnM Int32 :=
  dnB (dnGR r0 10 7) fun v1 =>
  dnB (dnCv v1 6 (fX7_bestBlock v1 p1)) fun v2 =>
  dnB (dnCv r0 10 (fX12_tally r0 v2)) fun v3 =>
  dnP v3
abbrev jX12_block (w : dnWd) (x : dnX) (b : Nat) := dnD w x b (fun _ => True) cX12_block RX12 2 rmX12_block "block" eI
set_option maxHeartbeats 4000000 in
set_option maxRecDepth 100000 in
theorem mX12_block (w : dnWd) (x : dnX) (b : Nat) (r0 : Option Nat) (p1 : Int32) : dnMt w x b yX12_block cX12_block 2 (some .int) rmX12_block eI [dnV b r0, .int p1] (fX12_block r0 p1) := by
  have hlv : lv_args 0 [dnV b r0, .int p1] = [(0, dnV b r0), (1, .int p1)] := by cases r0 <;> rfl
  refine dn_mt (by decide +kernel) roI (by cases r0 <;> exact (Nat.le_of_ble_eq_true rfl)) ?_
  rw [hlv]
  refine dn_top ?_
  show jX12_block w x b 0 0 0 _ [] (dnB _ dnP)
  unfold fX12_block
  refine dn_aload_n (pc := 0) r0 0 dX12_block_0 rfl ?_
  refine dn_aload_n (pc := 1) r0 0 dX12_block_1 rfl ?_
  refine dn_getR (pc := 2) r0 lRX12_56 dX12_block_2 (fun v1 => ?_)
  refine dn_iload_n (pc := 5) 1 dX12_block_5 rfl ?_
  refine dn_callV0I (pc := 6) [.int p1] v1 kRX12_200 (mX7_bestBlock w x b v1 p1) rfl rfl (Nat.le_of_ble_eq_true rfl) ⟨(Nat.le_of_ble_eq_true rfl), (Nat.le_of_ble_eq_true rfl)⟩ ⟨rfl, rfl, (Nat.le_of_ble_eq_true rfl), (Nat.le_of_ble_eq_true rfl)⟩ dX12_block_6 (fun v2 => ?_)
  refine dn_callV0I (pc := 9) [.int v2] r0 kRX12_91 (mX12_tally w x b r0 v2) rfl rfl (Nat.le_of_ble_eq_true rfl) ⟨(Nat.le_of_ble_eq_true rfl), (Nat.le_of_ble_eq_true rfl)⟩ ⟨rfl, rfl, (Nat.le_of_ble_eq_true rfl), (Nat.le_of_ble_eq_true rfl)⟩ dX12_block_9 (fun v3 => ?_)
  exact dn_ret (Nat.le_of_ble_eq_true rfl) (Nat.le_of_ble_eq_true rfl) rfl dX12_block_12
abbrev rmX3_numberOf : Room := { frames := 0, cells := 0, slots := 0, locals := 0 }
def fX3_numberOf (r0 : Option Nat) (p1 : Int32) (p2 : Int32) : dnM Int32 :=
  dnB (dnGR r0 2 3) fun v1 =>
  dnB (dnAI v1 100 ((p1 * 5) + p2)) fun v2 =>
  dnP v2
abbrev jX3_numberOf (w : dnWd) (x : dnX) (b : Nat) := dnD w x b (fun _ => True) cX3_numberOf RX3 3 rmX3_numberOf "numberOf" eI
set_option maxHeartbeats 4000000 in
set_option maxRecDepth 100000 in
theorem mX3_numberOf (w : dnWd) (x : dnX) (b : Nat) (r0 : Option Nat) (p1 : Int32) (p2 : Int32) : dnMt w x b yX3_numberOf cX3_numberOf 3 (some .int) rmX3_numberOf eI [dnV b r0, .int p1, .int p2] (fX3_numberOf r0 p1 p2) := by
  have hlv : lv_args 0 [dnV b r0, .int p1, .int p2] = [(0, dnV b r0), (1, .int p1), (2, .int p2)] := by cases r0 <;> rfl
  refine dn_mt (by decide +kernel) roI (by cases r0 <;> exact (Nat.le_of_ble_eq_true rfl)) ?_
  rw [hlv]
  refine dn_top ?_
  show jX3_numberOf w x b 0 0 0 _ [] (dnB _ dnP)
  unfold fX3_numberOf
  refine dn_aload_n (pc := 0) r0 0 dX3_numberOf_0 rfl ?_
  refine dn_getR (pc := 1) r0 lRX3_23 dX3_numberOf_1 (fun v1 => ?_)
  refine dn_iload_n (pc := 4) 1 dX3_numberOf_4 rfl ?_
  refine dn_iconst (pc := 5) (v := 5) dX3_numberOf_5 rfl ?_
  refine dn_imul (pc := 6) dX3_numberOf_6 ?_
  refine dn_iload_n (pc := 7) 2 dX3_numberOf_7 rfl ?_
  refine dn_iadd (pc := 8) dX3_numberOf_8 ?_
  refine dn_iald (pc := 9) v1 dX3_numberOf_9 (fun v2 => ?_)
  exact dn_ret (Nat.le_of_ble_eq_true rfl) (Nat.le_of_ble_eq_true rfl) rfl dX3_numberOf_10
abbrev rmX12_isKind : Room := { frames := 0, cells := 0, slots := 0, locals := 0 }
def fX12_isKind (p0 : Int32) : dnM Bool :=
  if p0 < 0 then
  (dnP false)
  else
  (if 12 ≤ p0 then
  (dnP false)
  else
  (dnP true))
abbrev jX12_isKind (w : dnWd) (x : dnX) (b : Nat) := dnD w x b (fun _ => True) cX12_isKind RX12 1 rmX12_isKind "isKind" eZ
set_option maxHeartbeats 4000000 in
set_option maxRecDepth 100000 in
theorem mX12_isKind (w : dnWd) (x : dnX) (b : Nat) (p0 : Int32) : dnMt w x b yX12_isKind cX12_isKind 1 (some .boolean) rmX12_isKind eZ [.int p0] (fX12_isKind p0) := by
  have hlv : lv_args 0 [.int p0] = [(0, .int p0)] := by rfl
  refine dn_mt (by decide +kernel) roZ (by exact (Nat.le_of_ble_eq_true rfl)) ?_
  rw [hlv]
  refine dn_top ?_
  show jX12_isKind w x b 0 0 0 _ [] (dnB _ dnP)
  unfold fX12_isKind
  refine dn_iload_n (pc := 0) 0 dX12_isKind_0 rfl ?_
  refine dn_if_lt (pc := 1) 14 dX12_isKind_1 rfl (fun _ => ?_) (fun _ => ?_)
  · refine dn_iconst (pc := 14) (v := 0) dX12_isKind_14 rfl ?_
    exact dn_ret (Nat.le_of_ble_eq_true rfl) (Nat.le_of_ble_eq_true rfl) rfl dX12_isKind_15
  · refine dn_iload_n (pc := 4) 0 dX12_isKind_4 rfl ?_
    refine dn_bipush (pc := 5) (v := 12) dX12_isKind_5 rfl ?_
    refine dn_icmp_ge (pc := 7) 14 dX12_isKind_7 rfl (fun _ => ?_) (fun _ => ?_)
    · refine dn_iconst (pc := 14) (v := 0) dX12_isKind_14 rfl ?_
      exact dn_ret (Nat.le_of_ble_eq_true rfl) (Nat.le_of_ble_eq_true rfl) rfl dX12_isKind_15
    · refine dn_iconst (pc := 10) (v := 1) dX12_isKind_10 rfl ?_
      refine dn_goto (pc := 11) 15 dX12_isKind_11 rfl ?_
      exact dn_ret (Nat.le_of_ble_eq_true rfl) (Nat.le_of_ble_eq_true rfl) rfl dX12_isKind_15
abbrev rmX6_castRow : Room := { frames := 4, cells := 0, slots := 0, locals := 87 }
def fX6_castRow_b60 (c0 : Option Nat) (c1 : Int32) (c2 : Int32) (c4 : Option Nat) (c5 : Option Nat) (s60 : Int32) : dnM ((Int32) ⊕ ((Unit) ⊕ Int32)) :=
  dnB (dnGI c4 4 2) fun v11 =>
  if v11 ≤ s60 then
  (dnP (.inr (.inl ())))
  else
  (dnB (dnCv c5 4 (fX5_accept c5 s60 c4 s60)) fun v12 =>
  if v12 = true then
  (dnP (.inl (s60 + 1)))
  else
  (dnB (dnGR c0 5 1) fun v13 =>
  dnB (dnPI v13 1 1 s60) fun _ =>
  dnP (.inr (.inr (-7)))))
def fX6_castRow (r0 : Option Nat) (p1 : Int32) (p2 : Int32) (p3 : Int32) : dnM Int32 :=
  dnB (fX12_isGrid p1) fun v1 =>
  if v1 = true then
  (dnB (fX12_isKind p3) fun v2 =>
  if v2 = true then
  (dnB (dnGR r0 5 0) fun v3 =>
  dnB (dnCv v3 7 (fX9_rowAt v3 p1 p2)) fun v4 =>
  v4.elim
  (dnB (dnGR r0 5 0) fun v6 =>
  dnB (dnCv v6 7 (fX9_rowFault v6 p1 p2)) fun v7 =>
  dnP v7)
  (fun v5 => dnB (dnGR r0 5 0) fun v8 =>
  dnB (dnGI (some v5) 4 2) fun v9 =>
  dnB (dnCv v8 7 (fX9_freshRow v8 p3 v9)) fun v10 =>
  dnB (dnIt 1000 (fX6_castRow_b60 r0 p1 p2 (some v5) v10) 0) fun q_ => q_.elim (fun q60 => dnB (dnGR r0 5 0) fun v14 =>
  dnB (dnCv v14 7 (fX9_place v14 p1 p2 v10)) fun _ =>
  dnB (dnGI v10 4 2) fun v16 =>
  dnP v16) (fun v_ => dnP v_)))
  else
  (dnP (-1)))
  else
  (dnP (-1))
abbrev jX6_castRow (w : dnWd) (x : dnX) (b : Nat) := dnD w x b (fun _ => True) cX6_castRow RX6 7 rmX6_castRow "castRow" eI
set_option maxHeartbeats 4000000 in
set_option maxRecDepth 100000 in
theorem mX6_castRow (w : dnWd) (x : dnX) (b : Nat) (r0 : Option Nat) (p1 : Int32) (p2 : Int32) (p3 : Int32) : dnMt w x b yX6_castRow cX6_castRow 7 (some .int) rmX6_castRow eI [dnV b r0, .int p1, .int p2, .int p3] (fX6_castRow r0 p1 p2 p3) := by
  have hlv : lv_args 0 [dnV b r0, .int p1, .int p2, .int p3] = [(0, dnV b r0), (1, .int p1), (2, .int p2), (3, .int p3)] := by cases r0 <;> rfl
  refine dn_mt (by decide +kernel) roI (by cases r0 <;> exact (Nat.le_of_ble_eq_true rfl)) ?_
  rw [hlv]
  refine dn_top ?_
  show jX6_castRow w x b 0 0 0 _ [] (dnB _ dnP)
  unfold fX6_castRow
  refine dn_iload_n (pc := 0) 1 dX6_castRow_0 rfl ?_
  refine dn_callSN0Z (pc := 1) [.int p1]  kRX6_31 (mX12_isGrid w x b p1) rfl rfl (Nat.le_of_ble_eq_true rfl) ⟨(Nat.le_of_ble_eq_true rfl), (Nat.le_of_ble_eq_true rfl)⟩ ⟨rfl, rfl, (Nat.le_of_ble_eq_true rfl), (Nat.le_of_ble_eq_true rfl)⟩ dX6_castRow_1 (fun v1 => ?_)
  refine dn_ifz_eq (pc := 4) 14 dX6_castRow_4 rfl (fun _ => ?_) (fun _ => ?_)
  · refine dn_iload_n (pc := 7) 3 dX6_castRow_7 rfl ?_
    refine dn_callSN0Z (pc := 8) [.int p3]  kRX6_112 (mX12_isKind w x b p3) rfl rfl (Nat.le_of_ble_eq_true rfl) ⟨(Nat.le_of_ble_eq_true rfl), (Nat.le_of_ble_eq_true rfl)⟩ ⟨rfl, rfl, (Nat.le_of_ble_eq_true rfl), (Nat.le_of_ble_eq_true rfl)⟩ dX6_castRow_8 (fun v2 => ?_)
    refine dn_ifz_ne (pc := 11) 16 dX6_castRow_11 rfl (fun _ => ?_) (fun _ => ?_)
    · refine dn_aload_n (pc := 16) r0 0 dX6_castRow_16 rfl ?_
      refine dn_getR (pc := 17) r0 lRX6_23 dX6_castRow_17 (fun v3 => ?_)
      refine dn_iload_n (pc := 20) 1 dX6_castRow_20 rfl ?_
      refine dn_iload_n (pc := 21) 2 dX6_castRow_21 rfl ?_
      refine dn_callV0R (pc := 22) [.int p1, .int p2] v3 kRX6_35 (mX9_rowAt w x b v3 p1 p2) rfl rfl (Nat.le_of_ble_eq_true rfl) ⟨(Nat.le_of_ble_eq_true rfl), (Nat.le_of_ble_eq_true rfl)⟩ ⟨rfl, rfl, (Nat.le_of_ble_eq_true rfl), (Nat.le_of_ble_eq_true rfl)⟩ dX6_castRow_22 (fun v4 => ?_)
      refine dn_astore (pc := 25) v4 dX6_castRow_25 (Nat.le_of_ble_eq_true rfl) (dnKp_nb 3 rfl rfl rfl (dnKp_of (lv2 := [(0, dnV b r0), (1, .int p1), (2, .int p2)]) [0, 1, 2] rfl rfl)) ?_
      refine dn_aload (pc := 27) v4 0 dX6_castRow_27 rfl ?_
      refine dn_ifnonnull (pc := 29) v4 42 dX6_castRow_29 rfl (fun e_ => ?_) (fun v5 e_ => ?_)
      · subst e_
        refine dn_aload_n (pc := 32) r0 2 dX6_castRow_32 rfl ?_
        refine dn_getR (pc := 33) r0 lRX6_23 dX6_castRow_33 (fun v6 => ?_)
        refine dn_iload_n (pc := 36) 3 dX6_castRow_36 rfl ?_
        refine dn_iload_n (pc := 37) 4 dX6_castRow_37 rfl ?_
        refine dn_callV0I (pc := 38) [.int p1, .int p2] v6 kRX6_41 (mX9_rowFault w x b v6 p1 p2) rfl rfl (Nat.le_of_ble_eq_true rfl) ⟨(Nat.le_of_ble_eq_true rfl), (Nat.le_of_ble_eq_true rfl)⟩ ⟨rfl, rfl, (Nat.le_of_ble_eq_true rfl), (Nat.le_of_ble_eq_true rfl)⟩ dX6_castRow_38 (fun v7 => ?_)
        exact dn_ret (Nat.le_of_ble_eq_true rfl) (Nat.le_of_ble_eq_true rfl) rfl dX6_castRow_41
      · subst e_
        refine dn_aload_n (pc := 42) r0 2 dX6_castRow_42 rfl ?_
        refine dn_getR (pc := 43) r0 lRX6_23 dX6_castRow_43 (fun v8 => ?_)
        refine dn_iload_n (pc := 46) 1 dX6_castRow_46 rfl ?_
        refine dn_aload (pc := 47) (some v5) 0 dX6_castRow_47 rfl ?_
        refine dn_getI (pc := 49) (some v5) lRX6_92 dX6_castRow_49 (fun v9 => ?_)
        refine dn_callV0R (pc := 52) [.int p3, .int v9] v8 kRX6_101 (mX9_freshRow w x b v8 p3 v9) rfl rfl (Nat.le_of_ble_eq_true rfl) ⟨(Nat.le_of_ble_eq_true rfl), (Nat.le_of_ble_eq_true rfl)⟩ ⟨rfl, rfl, (Nat.le_of_ble_eq_true rfl), (Nat.le_of_ble_eq_true rfl)⟩ dX6_castRow_52 (fun v10 => ?_)
        refine dn_astore (pc := 55) v10 dX6_castRow_55 (Nat.le_of_ble_eq_true rfl) (dnKp_nb 0 rfl (dn_cat b _) rfl (dnKp_of (lv2 := [(0, dnV b r0), (1, .int p1), (2, .int p2)]) [2, 3, 4] rfl rfl)) ?_
        refine dn_iconst (pc := 57) (v := 0) dX6_castRow_57 rfl ?_
        refine dn_istore (pc := 58) dX6_castRow_58 (Nat.le_of_ble_eq_true rfl) (dnKp_nb 0 rfl (dn_cat b _) rfl (dnKp_of (lv2 := [(4, dnV b (some v5)), (0, dnV b r0), (1, .int p1), (2, .int p2)]) [1, 2, 3, 4] rfl rfl)) ?_
        refine dn_assoc ?_
        refine dn_lv [3, 4, 5, 2, 1, 0] (lv2 := (fun s => [(0, dnV b r0), (1, .int p1), (2, .int p2), (4, dnV b (some v5)), (5, dnV b v10), (6, .int s)]) 0) rfl ?_
        refine dn_loopR (pc := 60) (body := fX6_castRow_b60 r0 p1 p2 (some v5) v10) 102 (fun s => [(0, dnV b r0), (1, .int p1), (2, .int p2), (4, dnV b (some v5)), (5, dnV b v10), (6, .int s)]) (fun q => [(0, dnV b r0), (1, .int p1), (2, .int p2), (5, dnV b v10)]) (fun s60 K60 E60 hK60 hE60 hR60 => ?_) (dn_rt (Nat.le_of_ble_eq_true rfl) (Nat.le_of_ble_eq_true rfl) (fun _ => rfl)) (fun q60 => ?_) 1000 0
        · unfold fX6_castRow_b60
          refine dn_iload (pc := 60) 5 dX6_castRow_60 rfl ?_
          refine dn_aload (pc := 62) (some v5) 3 dX6_castRow_62 rfl ?_
          refine dn_getI (pc := 64) (some v5) lRX6_92 dX6_castRow_64 (fun v11 => ?_)
          refine dn_icmp_ge (pc := 67) 102 dX6_castRow_67 rfl (fun _ => ?_) (fun _ => ?_)
          · refine dn_leaf ?_
            exact dn_lv [0, 1, 2, 4] rfl (hE60 ())
          · refine dn_aload (pc := 70) v10 4 dX6_castRow_70 rfl ?_
            refine dn_iload (pc := 72) 5 dX6_castRow_72 rfl ?_
            refine dn_aload (pc := 74) (some v5) 3 dX6_castRow_74 rfl ?_
            refine dn_iload (pc := 76) 5 dX6_castRow_76 rfl ?_
            refine dn_callV0Z (pc := 78) [.int s60, dnV b (some v5), .int s60] v10 kRX6_60 (mX5_accept w x b v10 s60 (some v5) s60) rfl rfl (Nat.le_of_ble_eq_true rfl) ⟨(Nat.le_of_ble_eq_true rfl), (Nat.le_of_ble_eq_true rfl)⟩ ⟨rfl, rfl, (Nat.le_of_ble_eq_true rfl), (Nat.le_of_ble_eq_true rfl)⟩ dX6_castRow_78 (fun v12 => ?_)
            refine dn_ifz_ne (pc := 81) 96 dX6_castRow_81 rfl (fun _ => ?_) (fun _ => ?_)
            · refine dn_iinc (pc := 96) (s60 + 1) 5 dX6_castRow_96 rfl rfl (Nat.le_of_ble_eq_true rfl) (dnKp_nb 4 rfl (dn_cat b _) rfl (dnKp_of (lv2 := [(0, dnV b r0), (1, .int p1), (2, .int p2), (4, dnV b (some v5))]) [0, 1, 2, 3] rfl rfl)) ?_
              refine dn_goto (pc := 99) 60 dX6_castRow_99 rfl ?_
              refine dn_leaf ?_
              exact dn_lv [2, 3, 4, 5, 1, 0] rfl (hK60 (s60 + 1))
            · refine dn_aload_n (pc := 84) r0 0 dX6_castRow_84 rfl ?_
              refine dn_getR (pc := 85) r0 lRX6_27 dX6_castRow_85 (fun v13 => ?_)
              refine dn_iload (pc := 88) 5 dX6_castRow_88 rfl ?_
              refine dn_putI (pc := 90) v13 lRX6_115 dX6_castRow_90 ?_
              refine dn_bipush (pc := 93) (v := -7) dX6_castRow_93 rfl ?_
              refine dn_leaf ?_
              exact hR60 (-7) _ _ _ rfl dX6_castRow_95
        · dsimp only [Sum.elim_inl]
          refine dn_aload_n (pc := 102) r0 0 dX6_castRow_102 rfl ?_
          refine dn_getR (pc := 103) r0 lRX6_23 dX6_castRow_103 (fun v14 => ?_)
          refine dn_iload_n (pc := 106) 1 dX6_castRow_106 rfl ?_
          refine dn_iload_n (pc := 107) 2 dX6_castRow_107 rfl ?_
          refine dn_aload (pc := 108) v10 3 dX6_castRow_108 rfl ?_
          refine dn_callV0U (pc := 110) [.int p1, .int p2, dnV b v10] v14 kRX6_108 (mX9_place w x b v14 p1 p2 v10) rfl rfl (Nat.le_of_ble_eq_true rfl) ⟨(Nat.le_of_ble_eq_true rfl), (Nat.le_of_ble_eq_true rfl)⟩ ⟨rfl, rfl, (Nat.le_of_ble_eq_true rfl), (Nat.le_of_ble_eq_true rfl)⟩ dX6_castRow_110 (fun _ => ?_)
          refine dn_aload (pc := 113) v10 3 dX6_castRow_113 rfl ?_
          refine dn_getI (pc := 115) v10 lRX6_92 dX6_castRow_115 (fun v16 => ?_)
          exact dn_ret (Nat.le_of_ble_eq_true rfl) (Nat.le_of_ble_eq_true rfl) rfl dX6_castRow_118
    · refine dn_iconst (pc := 14) (v := -1) dX6_castRow_14 rfl ?_
      exact dn_ret (Nat.le_of_ble_eq_true rfl) (Nat.le_of_ble_eq_true rfl) rfl dX6_castRow_15
  · refine dn_iconst (pc := 14) (v := -1) dX6_castRow_14 rfl ?_
    exact dn_ret (Nat.le_of_ble_eq_true rfl) (Nat.le_of_ble_eq_true rfl) rfl dX6_castRow_15
abbrev rmX6_cutOut : Room := { frames := 4, cells := 0, slots := 0, locals := 90 }
def fX6_cutOut (r0 : Option Nat) (p1 : Int32) (p2 : Int32) (p3 : Int32) (p4 : Int32) (p5 : Int32) : dnM Int32 :=
  dnB (fX12_isGrid p1) fun v1 =>
  if v1 = true then
  (if p4 < 0 then
  (dnP (-1))
  else
  (if p4 ≤ 12 then
  (dnB (dnGR r0 5 0) fun v2 =>
  dnB (dnCv v2 7 (fX9_rowAt v2 p1 p2)) fun v3 =>
  v3.elim
  (dnB (dnGR r0 5 0) fun v5 =>
  dnB (dnCv v5 7 (fX9_rowFault v5 p1 p2)) fun v6 =>
  dnP v6)
  (fun v4 => if p3 < 0 then
  (dnP (-6))
  else
  (dnB (dnGI (some v4) 4 2) fun v7 =>
  if p3 ≤ (v7 - p4) then
  (dnB (dnGR r0 5 0) fun v8 =>
  dnB (dnCv v8 7 (fX9_hasPlace v8 p1 p5)) fun v9 =>
  if v9 = true then
  (dnB (dnGR r0 5 0) fun v10 =>
  dnB (dnGI (some v4) 4 1) fun v11 =>
  dnB (dnCv v10 7 (fX9_freshRow v10 v11 p4)) fun v12 =>
  dnB (fX6_append v12 0 (some v4) p3 p4) fun _ =>
  dnB (dnGR r0 5 0) fun v14 =>
  dnB (dnCv v14 7 (fX9_place v14 p1 p5 v12)) fun _ =>
  dnP p4)
  else
  (dnP (-3)))
  else
  (dnP (-6)))))
  else
  (dnP (-1))))
  else
  (dnP (-1))
abbrev jX6_cutOut (w : dnWd) (x : dnX) (b : Nat) := dnD w x b (fun _ => True) cX6_cutOut RX6 8 rmX6_cutOut "cutOut" eI
set_option maxHeartbeats 4000000 in
set_option maxRecDepth 100000 in
theorem mX6_cutOut (w : dnWd) (x : dnX) (b : Nat) (r0 : Option Nat) (p1 : Int32) (p2 : Int32) (p3 : Int32) (p4 : Int32) (p5 : Int32) : dnMt w x b yX6_cutOut cX6_cutOut 8 (some .int) rmX6_cutOut eI [dnV b r0, .int p1, .int p2, .int p3, .int p4, .int p5] (fX6_cutOut r0 p1 p2 p3 p4 p5) := by
  have hlv : lv_args 0 [dnV b r0, .int p1, .int p2, .int p3, .int p4, .int p5] = [(0, dnV b r0), (1, .int p1), (2, .int p2), (3, .int p3), (4, .int p4), (5, .int p5)] := by cases r0 <;> rfl
  refine dn_mt (by decide +kernel) roI (by cases r0 <;> exact (Nat.le_of_ble_eq_true rfl)) ?_
  rw [hlv]
  refine dn_top ?_
  show jX6_cutOut w x b 0 0 0 _ [] (dnB _ dnP)
  unfold fX6_cutOut
  refine dn_iload_n (pc := 0) 1 dX6_cutOut_0 rfl ?_
  refine dn_callSN0Z (pc := 1) [.int p1]  kRX6_31 (mX12_isGrid w x b p1) rfl rfl (Nat.le_of_ble_eq_true rfl) ⟨(Nat.le_of_ble_eq_true rfl), (Nat.le_of_ble_eq_true rfl)⟩ ⟨rfl, rfl, (Nat.le_of_ble_eq_true rfl), (Nat.le_of_ble_eq_true rfl)⟩ dX6_cutOut_1 (fun v1 => ?_)
  refine dn_ifz_eq (pc := 4) 19 dX6_cutOut_4 rfl (fun _ => ?_) (fun _ => ?_)
  · refine dn_iload (pc := 7) 4 dX6_cutOut_7 rfl ?_
    refine dn_if_lt (pc := 9) 19 dX6_cutOut_9 rfl (fun _ => ?_) (fun _ => ?_)
    · refine dn_iconst (pc := 19) (v := -1) dX6_cutOut_19 rfl ?_
      exact dn_ret (Nat.le_of_ble_eq_true rfl) (Nat.le_of_ble_eq_true rfl) rfl dX6_cutOut_20
    · refine dn_iload (pc := 12) 4 dX6_cutOut_12 rfl ?_
      refine dn_bipush (pc := 14) (v := 12) dX6_cutOut_14 rfl ?_
      refine dn_icmp_le (pc := 16) 21 dX6_cutOut_16 rfl (fun _ => ?_) (fun _ => ?_)
      · refine dn_aload_n (pc := 21) r0 0 dX6_cutOut_21 rfl ?_
        refine dn_getR (pc := 22) r0 lRX6_23 dX6_cutOut_22 (fun v2 => ?_)
        refine dn_iload_n (pc := 25) 1 dX6_cutOut_25 rfl ?_
        refine dn_iload_n (pc := 26) 2 dX6_cutOut_26 rfl ?_
        refine dn_callV0R (pc := 27) [.int p1, .int p2] v2 kRX6_35 (mX9_rowAt w x b v2 p1 p2) rfl rfl (Nat.le_of_ble_eq_true rfl) ⟨(Nat.le_of_ble_eq_true rfl), (Nat.le_of_ble_eq_true rfl)⟩ ⟨rfl, rfl, (Nat.le_of_ble_eq_true rfl), (Nat.le_of_ble_eq_true rfl)⟩ dX6_cutOut_27 (fun v3 => ?_)
        refine dn_astore (pc := 30) v3 dX6_cutOut_30 (Nat.le_of_ble_eq_true rfl) (dnKp_nb 5 rfl rfl rfl (dnKp_of (lv2 := [(0, dnV b r0), (1, .int p1), (2, .int p2), (3, .int p3), (4, .int p4)]) [0, 1, 2, 3, 4] rfl rfl)) ?_
        refine dn_aload (pc := 32) v3 0 dX6_cutOut_32 rfl ?_
        refine dn_ifnonnull (pc := 34) v3 47 dX6_cutOut_34 rfl (fun e_ => ?_) (fun v4 e_ => ?_)
        · subst e_
          refine dn_aload_n (pc := 37) r0 2 dX6_cutOut_37 rfl ?_
          refine dn_getR (pc := 38) r0 lRX6_23 dX6_cutOut_38 (fun v5 => ?_)
          refine dn_iload_n (pc := 41) 3 dX6_cutOut_41 rfl ?_
          refine dn_iload_n (pc := 42) 4 dX6_cutOut_42 rfl ?_
          refine dn_callV0I (pc := 43) [.int p1, .int p2] v5 kRX6_41 (mX9_rowFault w x b v5 p1 p2) rfl rfl (Nat.le_of_ble_eq_true rfl) ⟨(Nat.le_of_ble_eq_true rfl), (Nat.le_of_ble_eq_true rfl)⟩ ⟨rfl, rfl, (Nat.le_of_ble_eq_true rfl), (Nat.le_of_ble_eq_true rfl)⟩ dX6_cutOut_43 (fun v6 => ?_)
          exact dn_ret (Nat.le_of_ble_eq_true rfl) (Nat.le_of_ble_eq_true rfl) rfl dX6_cutOut_46
        · subst e_
          refine dn_iload_n (pc := 47) 5 dX6_cutOut_47 rfl ?_
          refine dn_if_lt (pc := 48) 63 dX6_cutOut_48 rfl (fun _ => ?_) (fun _ => ?_)
          · refine dn_bipush (pc := 63) (v := -6) dX6_cutOut_63 rfl ?_
            exact dn_ret (Nat.le_of_ble_eq_true rfl) (Nat.le_of_ble_eq_true rfl) rfl dX6_cutOut_65
          · refine dn_iload_n (pc := 51) 5 dX6_cutOut_51 rfl ?_
            refine dn_aload (pc := 52) (some v4) 0 dX6_cutOut_52 rfl ?_
            refine dn_getI (pc := 54) (some v4) lRX6_92 dX6_cutOut_54 (fun v7 => ?_)
            refine dn_iload (pc := 57) 6 dX6_cutOut_57 rfl ?_
            refine dn_isub (pc := 59) dX6_cutOut_59 ?_
            refine dn_icmp_le (pc := 60) 66 dX6_cutOut_60 rfl (fun _ => ?_) (fun _ => ?_)
            · refine dn_aload_n (pc := 66) r0 2 dX6_cutOut_66 rfl ?_
              refine dn_getR (pc := 67) r0 lRX6_23 dX6_cutOut_67 (fun v8 => ?_)
              refine dn_iload_n (pc := 70) 3 dX6_cutOut_70 rfl ?_
              refine dn_iload (pc := 71) 1 dX6_cutOut_71 rfl ?_
              refine dn_callV0Z (pc := 73) [.int p1, .int p5] v8 kRX6_98 (mX9_hasPlace w x b v8 p1 p5) rfl rfl (Nat.le_of_ble_eq_true rfl) ⟨(Nat.le_of_ble_eq_true rfl), (Nat.le_of_ble_eq_true rfl)⟩ ⟨rfl, rfl, (Nat.le_of_ble_eq_true rfl), (Nat.le_of_ble_eq_true rfl)⟩ dX6_cutOut_73 (fun v9 => ?_)
              refine dn_ifz_ne (pc := 76) 82 dX6_cutOut_76 rfl (fun _ => ?_) (fun _ => ?_)
              · refine dn_aload_n (pc := 82) r0 2 dX6_cutOut_82 rfl ?_
                refine dn_getR (pc := 83) r0 lRX6_23 dX6_cutOut_83 (fun v10 => ?_)
                refine dn_aload (pc := 86) (some v4) 0 dX6_cutOut_86 rfl ?_
                refine dn_getI (pc := 88) (some v4) lRX6_48 dX6_cutOut_88 (fun v11 => ?_)
                refine dn_iload (pc := 91) 6 dX6_cutOut_91 rfl ?_
                refine dn_callV0R (pc := 93) [.int v11, .int p4] v10 kRX6_101 (mX9_freshRow w x b v10 v11 p4) rfl rfl (Nat.le_of_ble_eq_true rfl) ⟨(Nat.le_of_ble_eq_true rfl), (Nat.le_of_ble_eq_true rfl)⟩ ⟨rfl, rfl, (Nat.le_of_ble_eq_true rfl), (Nat.le_of_ble_eq_true rfl)⟩ dX6_cutOut_93 (fun v12 => ?_)
                refine dn_astore (pc := 96) v12 dX6_cutOut_96 (Nat.le_of_ble_eq_true rfl) (dnKp_nb 0 rfl (dn_cat b _) rfl (dnKp_of (lv2 := [(5, .int p5), (0, dnV b r0), (1, .int p1), (3, .int p3), (4, .int p4)]) [1, 2, 3, 5, 6] rfl rfl)) ?_
                refine dn_aload (pc := 98) v12 0 dX6_cutOut_98 rfl ?_
                refine dn_iconst (pc := 100) (v := 0) dX6_cutOut_100 rfl ?_
                refine dn_aload (pc := 101) (some v4) 1 dX6_cutOut_101 rfl ?_
                refine dn_iload_n (pc := 103) 5 dX6_cutOut_103 rfl ?_
                refine dn_iload (pc := 104) 6 dX6_cutOut_104 rfl ?_
                refine dn_callS0U (pc := 106) [dnV b v12, .int 0, dnV b (some v4), .int p3, .int p4]  kRX6_104 (mX6_append w x b v12 0 (some v4) p3 p4) rfl rfl (Nat.le_of_ble_eq_true rfl) ⟨(Nat.le_of_ble_eq_true rfl), (Nat.le_of_ble_eq_true rfl)⟩ ⟨rfl, rfl, (Nat.le_of_ble_eq_true rfl), (Nat.le_of_ble_eq_true rfl)⟩ dX6_cutOut_106 (fun _ => ?_)
                refine dn_aload_n (pc := 109) r0 3 dX6_cutOut_109 rfl ?_
                refine dn_getR (pc := 110) r0 lRX6_23 dX6_cutOut_110 (fun v14 => ?_)
                refine dn_iload_n (pc := 113) 4 dX6_cutOut_113 rfl ?_
                refine dn_iload (pc := 114) 2 dX6_cutOut_114 rfl ?_
                refine dn_aload (pc := 116) v12 0 dX6_cutOut_116 rfl ?_
                refine dn_callV0U (pc := 118) [.int p1, .int p5, dnV b v12] v14 kRX6_108 (mX9_place w x b v14 p1 p5 v12) rfl rfl (Nat.le_of_ble_eq_true rfl) ⟨(Nat.le_of_ble_eq_true rfl), (Nat.le_of_ble_eq_true rfl)⟩ ⟨rfl, rfl, (Nat.le_of_ble_eq_true rfl), (Nat.le_of_ble_eq_true rfl)⟩ dX6_cutOut_118 (fun _ => ?_)
                refine dn_iload (pc := 121) 6 dX6_cutOut_121 rfl ?_
                exact dn_ret (Nat.le_of_ble_eq_true rfl) (Nat.le_of_ble_eq_true rfl) rfl dX6_cutOut_123
              · refine dn_bipush (pc := 79) (v := -3) dX6_cutOut_79 rfl ?_
                exact dn_ret (Nat.le_of_ble_eq_true rfl) (Nat.le_of_ble_eq_true rfl) rfl dX6_cutOut_81
            · refine dn_bipush (pc := 63) (v := -6) dX6_cutOut_63 rfl ?_
              exact dn_ret (Nat.le_of_ble_eq_true rfl) (Nat.le_of_ble_eq_true rfl) rfl dX6_cutOut_65
      · refine dn_iconst (pc := 19) (v := -1) dX6_cutOut_19 rfl ?_
        exact dn_ret (Nat.le_of_ble_eq_true rfl) (Nat.le_of_ble_eq_true rfl) rfl dX6_cutOut_20
  · refine dn_iconst (pc := 19) (v := -1) dX6_cutOut_19 rfl ?_
    exact dn_ret (Nat.le_of_ble_eq_true rfl) (Nat.le_of_ble_eq_true rfl) rfl dX6_cutOut_20
abbrev rmX6_joinRows : Room := { frames := 4, cells := 0, slots := 0, locals := 90 }
def fX6_joinRows (r0 : Option Nat) (p1 : Int32) (p2 : Int32) (p3 : Int32) : dnM Int32 :=
  dnB (dnGR r0 5 0) fun v1 =>
  dnB (dnCv v1 7 (fX9_rowAt v1 p1 p2)) fun v2 =>
  v2.elim
  (dnB (dnGR r0 5 0) fun v4 =>
  dnB (dnCv v4 7 (fX9_rowFault v4 p1 p2)) fun v5 =>
  dnP v5)
  (fun v3 => dnB (dnGR r0 5 0) fun v6 =>
  dnB (dnCv v6 7 (fX9_rowAt v6 p1 p3)) fun v7 =>
  v7.elim
  (dnB (dnGR r0 5 0) fun v9 =>
  dnB (dnCv v9 7 (fX9_rowFault v9 p1 p3)) fun v10 =>
  dnP v10)
  (fun v8 => dnB (dnGI (some v3) 4 2) fun v11 =>
  dnB (dnGI (some v8) 4 2) fun v12 =>
  if (v11 + v12) ≤ 12 then
  (dnB (dnGR r0 5 0) fun v13 =>
  dnB (dnGI (some v3) 4 1) fun v14 =>
  dnB (dnGI (some v8) 4 1) fun v15 =>
  dnB (fX12_leastKind ((1 <<< (v14 &&& 31)) ||| (1 <<< (v15 &&& 31)))) fun v16 =>
  dnB (dnGI (some v3) 4 2) fun v17 =>
  dnB (dnGI (some v8) 4 2) fun v18 =>
  dnB (dnCv v13 7 (fX9_freshRow v13 v16 (v17 + v18))) fun v19 =>
  dnB (dnGI (some v3) 4 2) fun v20 =>
  dnB (fX6_append v19 0 (some v3) 0 v20) fun _ =>
  dnB (dnGI (some v3) 4 2) fun v22 =>
  dnB (dnGI (some v8) 4 2) fun v23 =>
  dnB (fX6_append v19 v22 (some v8) 0 v23) fun _ =>
  dnB (dnGR r0 5 0) fun v25 =>
  dnB (dnCv v25 7 (fX9_place v25 p1 p2 v19)) fun _ =>
  dnB (dnGI v19 4 2) fun v27 =>
  dnP v27)
  else
  (dnP (-10))))
abbrev jX6_joinRows (w : dnWd) (x : dnX) (b : Nat) := dnD w x b (fun _ => True) cX6_joinRows RX6 7 rmX6_joinRows "joinRows" eI
set_option maxHeartbeats 4000000 in
set_option maxRecDepth 100000 in
theorem mX6_joinRows (w : dnWd) (x : dnX) (b : Nat) (r0 : Option Nat) (p1 : Int32) (p2 : Int32) (p3 : Int32) : dnMt w x b yX6_joinRows cX6_joinRows 7 (some .int) rmX6_joinRows eI [dnV b r0, .int p1, .int p2, .int p3] (fX6_joinRows r0 p1 p2 p3) := by
  have hlv : lv_args 0 [dnV b r0, .int p1, .int p2, .int p3] = [(0, dnV b r0), (1, .int p1), (2, .int p2), (3, .int p3)] := by cases r0 <;> rfl
  refine dn_mt (by decide +kernel) roI (by cases r0 <;> exact (Nat.le_of_ble_eq_true rfl)) ?_
  rw [hlv]
  refine dn_top ?_
  show jX6_joinRows w x b 0 0 0 _ [] (dnB _ dnP)
  unfold fX6_joinRows
  refine dn_aload_n (pc := 0) r0 0 dX6_joinRows_0 rfl ?_
  refine dn_getR (pc := 1) r0 lRX6_23 dX6_joinRows_1 (fun v1 => ?_)
  refine dn_iload_n (pc := 4) 1 dX6_joinRows_4 rfl ?_
  refine dn_iload_n (pc := 5) 2 dX6_joinRows_5 rfl ?_
  refine dn_callV0R (pc := 6) [.int p1, .int p2] v1 kRX6_35 (mX9_rowAt w x b v1 p1 p2) rfl rfl (Nat.le_of_ble_eq_true rfl) ⟨(Nat.le_of_ble_eq_true rfl), (Nat.le_of_ble_eq_true rfl)⟩ ⟨rfl, rfl, (Nat.le_of_ble_eq_true rfl), (Nat.le_of_ble_eq_true rfl)⟩ dX6_joinRows_6 (fun v2 => ?_)
  refine dn_astore (pc := 9) v2 dX6_joinRows_9 (Nat.le_of_ble_eq_true rfl) (dnKp_nb 3 rfl rfl rfl (dnKp_of (lv2 := [(0, dnV b r0), (1, .int p1), (2, .int p2)]) [0, 1, 2] rfl rfl)) ?_
  refine dn_aload (pc := 11) v2 0 dX6_joinRows_11 rfl ?_
  refine dn_ifnonnull (pc := 13) v2 26 dX6_joinRows_13 rfl (fun e_ => ?_) (fun v3 e_ => ?_)
  · subst e_
    refine dn_aload_n (pc := 16) r0 2 dX6_joinRows_16 rfl ?_
    refine dn_getR (pc := 17) r0 lRX6_23 dX6_joinRows_17 (fun v4 => ?_)
    refine dn_iload_n (pc := 20) 3 dX6_joinRows_20 rfl ?_
    refine dn_iload_n (pc := 21) 4 dX6_joinRows_21 rfl ?_
    refine dn_callV0I (pc := 22) [.int p1, .int p2] v4 kRX6_41 (mX9_rowFault w x b v4 p1 p2) rfl rfl (Nat.le_of_ble_eq_true rfl) ⟨(Nat.le_of_ble_eq_true rfl), (Nat.le_of_ble_eq_true rfl)⟩ ⟨rfl, rfl, (Nat.le_of_ble_eq_true rfl), (Nat.le_of_ble_eq_true rfl)⟩ dX6_joinRows_22 (fun v5 => ?_)
    exact dn_ret (Nat.le_of_ble_eq_true rfl) (Nat.le_of_ble_eq_true rfl) rfl dX6_joinRows_25
  · subst e_
    refine dn_aload_n (pc := 26) r0 2 dX6_joinRows_26 rfl ?_
    refine dn_getR (pc := 27) r0 lRX6_23 dX6_joinRows_27 (fun v6 => ?_)
    refine dn_iload_n (pc := 30) 3 dX6_joinRows_30 rfl ?_
    refine dn_iload_n (pc := 31) 1 dX6_joinRows_31 rfl ?_
    refine dn_callV0R (pc := 32) [.int p1, .int p3] v6 kRX6_35 (mX9_rowAt w x b v6 p1 p3) rfl rfl (Nat.le_of_ble_eq_true rfl) ⟨(Nat.le_of_ble_eq_true rfl), (Nat.le_of_ble_eq_true rfl)⟩ ⟨rfl, rfl, (Nat.le_of_ble_eq_true rfl), (Nat.le_of_ble_eq_true rfl)⟩ dX6_joinRows_32 (fun v7 => ?_)
    refine dn_astore (pc := 35) v7 dX6_joinRows_35 (Nat.le_of_ble_eq_true rfl) (dnKp_nb 0 rfl (dn_cat b _) rfl (dnKp_of (lv2 := [(3, .int p3), (0, dnV b r0), (1, .int p1), (2, .int p2)]) [1, 2, 3, 4] rfl rfl)) ?_
    refine dn_aload (pc := 37) v7 0 dX6_joinRows_37 rfl ?_
    refine dn_ifnonnull (pc := 39) v7 52 dX6_joinRows_39 rfl (fun e_ => ?_) (fun v8 e_ => ?_)
    · subst e_
      refine dn_aload_n (pc := 42) r0 3 dX6_joinRows_42 rfl ?_
      refine dn_getR (pc := 43) r0 lRX6_23 dX6_joinRows_43 (fun v9 => ?_)
      refine dn_iload_n (pc := 46) 4 dX6_joinRows_46 rfl ?_
      refine dn_iload_n (pc := 47) 2 dX6_joinRows_47 rfl ?_
      refine dn_callV0I (pc := 48) [.int p1, .int p3] v9 kRX6_41 (mX9_rowFault w x b v9 p1 p3) rfl rfl (Nat.le_of_ble_eq_true rfl) ⟨(Nat.le_of_ble_eq_true rfl), (Nat.le_of_ble_eq_true rfl)⟩ ⟨rfl, rfl, (Nat.le_of_ble_eq_true rfl), (Nat.le_of_ble_eq_true rfl)⟩ dX6_joinRows_48 (fun v10 => ?_)
      exact dn_ret (Nat.le_of_ble_eq_true rfl) (Nat.le_of_ble_eq_true rfl) rfl dX6_joinRows_51
    · subst e_
      refine dn_aload (pc := 52) (some v3) 1 dX6_joinRows_52 rfl ?_
      refine dn_getI (pc := 54) (some v3) lRX6_92 dX6_joinRows_54 (fun v11 => ?_)
      refine dn_aload (pc := 57) (some v8) 0 dX6_joinRows_57 rfl ?_
      refine dn_getI (pc := 59) (some v8) lRX6_92 dX6_joinRows_59 (fun v12 => ?_)
      refine dn_iadd (pc := 62) dX6_joinRows_62 ?_
      refine dn_bipush (pc := 63) (v := 12) dX6_joinRows_63 rfl ?_
      refine dn_icmp_le (pc := 65) 71 dX6_joinRows_65 rfl (fun _ => ?_) (fun _ => ?_)
      · refine dn_aload_n (pc := 71) r0 3 dX6_joinRows_71 rfl ?_
        refine dn_getR (pc := 72) r0 lRX6_23 dX6_joinRows_72 (fun v13 => ?_)
        refine dn_iconst (pc := 75) (v := 1) dX6_joinRows_75 rfl ?_
        refine dn_aload (pc := 76) (some v3) 1 dX6_joinRows_76 rfl ?_
        refine dn_getI (pc := 78) (some v3) lRX6_48 dX6_joinRows_78 (fun v14 => ?_)
        refine dn_ishl (pc := 81) dX6_joinRows_81 ?_
        refine dn_iconst (pc := 82) (v := 1) dX6_joinRows_82 rfl ?_
        refine dn_aload (pc := 83) (some v8) 0 dX6_joinRows_83 rfl ?_
        refine dn_getI (pc := 85) (some v8) lRX6_48 dX6_joinRows_85 (fun v15 => ?_)
        refine dn_ishl (pc := 88) dX6_joinRows_88 ?_
        refine dn_ior (pc := 89) dX6_joinRows_89 ?_
        refine dn_callSN0I (pc := 90) [.int ((1 <<< (v14 &&& 31)) ||| (1 <<< (v15 &&& 31)))]  kRX6_118 (mX12_leastKind w x b ((1 <<< (v14 &&& 31)) ||| (1 <<< (v15 &&& 31)))) rfl rfl (Nat.le_of_ble_eq_true rfl) ⟨(Nat.le_of_ble_eq_true rfl), (Nat.le_of_ble_eq_true rfl)⟩ ⟨rfl, rfl, (Nat.le_of_ble_eq_true rfl), (Nat.le_of_ble_eq_true rfl)⟩ dX6_joinRows_90 (fun v16 => ?_)
        refine dn_aload (pc := 93) (some v3) 1 dX6_joinRows_93 rfl ?_
        refine dn_getI (pc := 95) (some v3) lRX6_92 dX6_joinRows_95 (fun v17 => ?_)
        refine dn_aload (pc := 98) (some v8) 0 dX6_joinRows_98 rfl ?_
        refine dn_getI (pc := 100) (some v8) lRX6_92 dX6_joinRows_100 (fun v18 => ?_)
        refine dn_iadd (pc := 103) dX6_joinRows_103 ?_
        refine dn_callV0R (pc := 104) [.int v16, .int (v17 + v18)] v13 kRX6_101 (mX9_freshRow w x b v13 v16 (v17 + v18)) rfl rfl (Nat.le_of_ble_eq_true rfl) ⟨(Nat.le_of_ble_eq_true rfl), (Nat.le_of_ble_eq_true rfl)⟩ ⟨rfl, rfl, (Nat.le_of_ble_eq_true rfl), (Nat.le_of_ble_eq_true rfl)⟩ dX6_joinRows_104 (fun v19 => ?_)
        refine dn_astore (pc := 107) v19 dX6_joinRows_107 (Nat.le_of_ble_eq_true rfl) (dnKp_nb 0 rfl (dn_cat b _) rfl (dnKp_of (lv2 := [(4, dnV b (some v3)), (0, dnV b r0), (1, .int p1), (2, .int p2)]) [1, 3, 4, 5] rfl rfl)) ?_
        refine dn_aload (pc := 109) v19 0 dX6_joinRows_109 rfl ?_
        refine dn_iconst (pc := 111) (v := 0) dX6_joinRows_111 rfl ?_
        refine dn_aload (pc := 112) (some v3) 2 dX6_joinRows_112 rfl ?_
        refine dn_iconst (pc := 114) (v := 0) dX6_joinRows_114 rfl ?_
        refine dn_aload (pc := 115) (some v3) 2 dX6_joinRows_115 rfl ?_
        refine dn_getI (pc := 117) (some v3) lRX6_92 dX6_joinRows_117 (fun v20 => ?_)
        refine dn_callS0U (pc := 120) [dnV b v19, .int 0, dnV b (some v3), .int 0, .int v20]  kRX6_104 (mX6_append w x b v19 0 (some v3) 0 v20) rfl rfl (Nat.le_of_ble_eq_true rfl) ⟨(Nat.le_of_ble_eq_true rfl), (Nat.le_of_ble_eq_true rfl)⟩ ⟨rfl, rfl, (Nat.le_of_ble_eq_true rfl), (Nat.le_of_ble_eq_true rfl)⟩ dX6_joinRows_120 (fun _ => ?_)
        refine dn_aload (pc := 123) v19 0 dX6_joinRows_123 rfl ?_
        refine dn_aload (pc := 125) (some v3) 2 dX6_joinRows_125 rfl ?_
        refine dn_getI (pc := 127) (some v3) lRX6_92 dX6_joinRows_127 (fun v22 => ?_)
        refine dn_aload (pc := 130) (some v8) 1 dX6_joinRows_130 rfl ?_
        refine dn_iconst (pc := 132) (v := 0) dX6_joinRows_132 rfl ?_
        refine dn_aload (pc := 133) (some v8) 1 dX6_joinRows_133 rfl ?_
        refine dn_getI (pc := 135) (some v8) lRX6_92 dX6_joinRows_135 (fun v23 => ?_)
        refine dn_callS0U (pc := 138) [dnV b v19, .int v22, dnV b (some v8), .int 0, .int v23]  kRX6_104 (mX6_append w x b v19 v22 (some v8) 0 v23) rfl rfl (Nat.le_of_ble_eq_true rfl) ⟨(Nat.le_of_ble_eq_true rfl), (Nat.le_of_ble_eq_true rfl)⟩ ⟨rfl, rfl, (Nat.le_of_ble_eq_true rfl), (Nat.le_of_ble_eq_true rfl)⟩ dX6_joinRows_138 (fun _ => ?_)
        refine dn_aload_n (pc := 141) r0 3 dX6_joinRows_141 rfl ?_
        refine dn_getR (pc := 142) r0 lRX6_23 dX6_joinRows_142 (fun v25 => ?_)
        refine dn_iload_n (pc := 145) 4 dX6_joinRows_145 rfl ?_
        refine dn_iload_n (pc := 146) 5 dX6_joinRows_146 rfl ?_
        refine dn_aload (pc := 147) v19 0 dX6_joinRows_147 rfl ?_
        refine dn_callV0U (pc := 149) [.int p1, .int p2, dnV b v19] v25 kRX6_108 (mX9_place w x b v25 p1 p2 v19) rfl rfl (Nat.le_of_ble_eq_true rfl) ⟨(Nat.le_of_ble_eq_true rfl), (Nat.le_of_ble_eq_true rfl)⟩ ⟨rfl, rfl, (Nat.le_of_ble_eq_true rfl), (Nat.le_of_ble_eq_true rfl)⟩ dX6_joinRows_149 (fun _ => ?_)
        refine dn_aload (pc := 152) v19 0 dX6_joinRows_152 rfl ?_
        refine dn_getI (pc := 154) v19 lRX6_92 dX6_joinRows_154 (fun v27 => ?_)
        exact dn_ret (Nat.le_of_ble_eq_true rfl) (Nat.le_of_ble_eq_true rfl) rfl dX6_joinRows_157
      · refine dn_bipush (pc := 68) (v := -10) dX6_joinRows_68 rfl ?_
        exact dn_ret (Nat.le_of_ble_eq_true rfl) (Nat.le_of_ble_eq_true rfl) rfl dX6_joinRows_70
abbrev rmX6_reverse : Room := { frames := 4, cells := 0, slots := 0, locals := 87 }
def fX6_reverse_b35 (c0 : Option Nat) (c3 : Option Nat) (s35 : Int32) : dnM ((Int32) ⊕ (Unit)) :=
  dnB (dnGI c3 4 2) fun v8 =>
  if v8 ≤ s35 then
  (dnP (.inr ()))
  else
  (dnB (dnGI c3 4 2) fun v9 =>
  dnB (dnGR c0 5 3) fun v10 =>
  dnB (dnCv c3 4 (fX5_accept c3 ((v9 - 1) - s35) v10 s35)) fun v11 =>
  dnP (.inl (s35 + 1)))
def fX6_reverse (r0 : Option Nat) (p1 : Int32) (p2 : Int32) : dnM Int32 :=
  dnB (dnGR r0 5 0) fun v1 =>
  dnB (dnCv v1 7 (fX9_rowAt v1 p1 p2)) fun v2 =>
  v2.elim
  (dnB (dnGR r0 5 0) fun v4 =>
  dnB (dnCv v4 7 (fX9_rowFault v4 p1 p2)) fun v5 =>
  dnP v5)
  (fun v3 => dnB (dnGR r0 5 3) fun v6 =>
  dnB (dnCv v6 4 (fX5_copyFrom v6 (some v3))) fun _ =>
  dnB (dnIt 1000 (fX6_reverse_b35 r0 (some v3)) 0) fun q35 =>
  dnB (dnGI (some v3) 4 2) fun v12 =>
  dnP v12)
abbrev jX6_reverse (w : dnWd) (x : dnX) (b : Nat) := dnD w x b (fun _ => True) cX6_reverse RX6 5 rmX6_reverse "reverse" eI
set_option maxHeartbeats 4000000 in
set_option maxRecDepth 100000 in
theorem mX6_reverse (w : dnWd) (x : dnX) (b : Nat) (r0 : Option Nat) (p1 : Int32) (p2 : Int32) : dnMt w x b yX6_reverse cX6_reverse 5 (some .int) rmX6_reverse eI [dnV b r0, .int p1, .int p2] (fX6_reverse r0 p1 p2) := by
  have hlv : lv_args 0 [dnV b r0, .int p1, .int p2] = [(0, dnV b r0), (1, .int p1), (2, .int p2)] := by cases r0 <;> rfl
  refine dn_mt (by decide +kernel) roI (by cases r0 <;> exact (Nat.le_of_ble_eq_true rfl)) ?_
  rw [hlv]
  refine dn_top ?_
  show jX6_reverse w x b 0 0 0 _ [] (dnB _ dnP)
  unfold fX6_reverse
  refine dn_aload_n (pc := 0) r0 0 dX6_reverse_0 rfl ?_
  refine dn_getR (pc := 1) r0 lRX6_23 dX6_reverse_1 (fun v1 => ?_)
  refine dn_iload_n (pc := 4) 1 dX6_reverse_4 rfl ?_
  refine dn_iload_n (pc := 5) 2 dX6_reverse_5 rfl ?_
  refine dn_callV0R (pc := 6) [.int p1, .int p2] v1 kRX6_35 (mX9_rowAt w x b v1 p1 p2) rfl rfl (Nat.le_of_ble_eq_true rfl) ⟨(Nat.le_of_ble_eq_true rfl), (Nat.le_of_ble_eq_true rfl)⟩ ⟨rfl, rfl, (Nat.le_of_ble_eq_true rfl), (Nat.le_of_ble_eq_true rfl)⟩ dX6_reverse_6 (fun v2 => ?_)
  refine dn_astore_n (pc := 9) v2 dX6_reverse_9 (Nat.le_of_ble_eq_true rfl) (dnKp_nb 2 rfl rfl rfl (dnKp_of (lv2 := [(0, dnV b r0), (1, .int p1)]) [0, 1] rfl rfl)) ?_
  refine dn_aload_n (pc := 10) v2 0 dX6_reverse_10 rfl ?_
  refine dn_ifnonnull (pc := 11) v2 24 dX6_reverse_11 rfl (fun e_ => ?_) (fun v3 e_ => ?_)
  · subst e_
    refine dn_aload_n (pc := 14) r0 2 dX6_reverse_14 rfl ?_
    refine dn_getR (pc := 15) r0 lRX6_23 dX6_reverse_15 (fun v4 => ?_)
    refine dn_iload_n (pc := 18) 3 dX6_reverse_18 rfl ?_
    refine dn_iload_n (pc := 19) 1 dX6_reverse_19 rfl ?_
    refine dn_callV0I (pc := 20) [.int p1, .int p2] v4 kRX6_41 (mX9_rowFault w x b v4 p1 p2) rfl rfl (Nat.le_of_ble_eq_true rfl) ⟨(Nat.le_of_ble_eq_true rfl), (Nat.le_of_ble_eq_true rfl)⟩ ⟨rfl, rfl, (Nat.le_of_ble_eq_true rfl), (Nat.le_of_ble_eq_true rfl)⟩ dX6_reverse_20 (fun v5 => ?_)
    exact dn_ret (Nat.le_of_ble_eq_true rfl) (Nat.le_of_ble_eq_true rfl) rfl dX6_reverse_23
  · subst e_
    refine dn_aload_n (pc := 24) r0 2 dX6_reverse_24 rfl ?_
    refine dn_getR (pc := 25) r0 lRX6_20 dX6_reverse_25 (fun v6 => ?_)
    refine dn_aload_n (pc := 28) (some v3) 0 dX6_reverse_28 rfl ?_
    refine dn_callV0U (pc := 29) [dnV b (some v3)] v6 kRX6_122 (mX5_copyFrom w x b v6 (some v3)) rfl rfl (Nat.le_of_ble_eq_true rfl) ⟨(Nat.le_of_ble_eq_true rfl), (Nat.le_of_ble_eq_true rfl)⟩ ⟨rfl, rfl, (Nat.le_of_ble_eq_true rfl), (Nat.le_of_ble_eq_true rfl)⟩ dX6_reverse_29 (fun _ => ?_)
    refine dn_iconst (pc := 32) (v := 0) dX6_reverse_32 rfl ?_
    refine dn_istore (pc := 33) dX6_reverse_33 (Nat.le_of_ble_eq_true rfl) (dnKp_nb 0 rfl (dn_cat b _) rfl (dnKp_of (lv2 := [(0, dnV b r0)]) [2] rfl rfl)) ?_
    refine dn_assoc ?_
    refine dn_lv [2, 1, 0] (lv2 := (fun s => [(0, dnV b r0), (3, dnV b (some v3)), (4, .int s)]) 0) rfl ?_
    refine dn_loopE (pc := 35) (body := fX6_reverse_b35 r0 (some v3)) 70 (fun s => [(0, dnV b r0), (3, dnV b (some v3)), (4, .int s)]) (fun q => [(3, dnV b (some v3))]) (fun s35 K35 E35 hK35 hE35 => ?_) (fun q35 => ?_) 1000 0
    · unfold fX6_reverse_b35
      refine dn_iload (pc := 35) 2 dX6_reverse_35 rfl ?_
      refine dn_aload_n (pc := 37) (some v3) 1 dX6_reverse_37 rfl ?_
      refine dn_getI (pc := 38) (some v3) lRX6_92 dX6_reverse_38 (fun v8 => ?_)
      refine dn_icmp_ge (pc := 41) 70 dX6_reverse_41 rfl (fun _ => ?_) (fun _ => ?_)
      · refine dn_leaf ?_
        exact dn_lv [1] rfl (hE35 ())
      · refine dn_aload_n (pc := 44) (some v3) 1 dX6_reverse_44 rfl ?_
        refine dn_aload_n (pc := 45) (some v3) 1 dX6_reverse_45 rfl ?_
        refine dn_getI (pc := 46) (some v3) lRX6_92 dX6_reverse_46 (fun v9 => ?_)
        refine dn_iconst (pc := 49) (v := 1) dX6_reverse_49 rfl ?_
        refine dn_isub (pc := 50) dX6_reverse_50 ?_
        refine dn_iload (pc := 51) 2 dX6_reverse_51 rfl ?_
        refine dn_isub (pc := 53) dX6_reverse_53 ?_
        refine dn_aload_n (pc := 54) r0 0 dX6_reverse_54 rfl ?_
        refine dn_getR (pc := 55) r0 lRX6_20 dX6_reverse_55 (fun v10 => ?_)
        refine dn_iload (pc := 58) 2 dX6_reverse_58 rfl ?_
        refine dn_callV0Z (pc := 60) [.int ((v9 - 1) - s35), dnV b v10, .int s35] (some v3) kRX6_60 (mX5_accept w x b (some v3) ((v9 - 1) - s35) v10 s35) rfl rfl (Nat.le_of_ble_eq_true rfl) ⟨(Nat.le_of_ble_eq_true rfl), (Nat.le_of_ble_eq_true rfl)⟩ ⟨rfl, rfl, (Nat.le_of_ble_eq_true rfl), (Nat.le_of_ble_eq_true rfl)⟩ dX6_reverse_60 (fun v11 => ?_)
        refine dn_pop (pc := 63) dX6_reverse_63 rfl ?_
        refine dn_iinc (pc := 64) (s35 + 1) 2 dX6_reverse_64 rfl rfl (Nat.le_of_ble_eq_true rfl) (dnKp_nb 1 rfl (dn_cat b _) rfl (dnKp_of (lv2 := [(0, dnV b r0)]) [0] rfl rfl)) ?_
        refine dn_goto (pc := 67) 35 dX6_reverse_67 rfl ?_
        refine dn_leaf ?_
        exact dn_lv [2, 1, 0] rfl (hK35 (s35 + 1))
    · refine dn_aload_n (pc := 70) (some v3) 0 dX6_reverse_70 rfl ?_
      refine dn_getI (pc := 71) (some v3) lRX6_92 dX6_reverse_71 (fun v12 => ?_)
      exact dn_ret (Nat.le_of_ble_eq_true rfl) (Nat.le_of_ble_eq_true rfl) rfl dX6_reverse_74
abbrev rmX6_rotate : Room := { frames := 4, cells := 0, slots := 0, locals := 90 }
def fX6_rotate (r0 : Option Nat) (p1 : Int32) (p2 : Int32) (p3 : Int32) : dnM Int32 :=
  dnB (dnGR r0 5 0) fun v1 =>
  dnB (dnCv v1 7 (fX9_rowAt v1 p1 p2)) fun v2 =>
  v2.elim
  (dnB (dnGR r0 5 0) fun v4 =>
  dnB (dnCv v4 7 (fX9_rowFault v4 p1 p2)) fun v5 =>
  dnP v5)
  (fun v3 => dnB (dnGI (some v3) 4 2) fun v6 =>
  if ¬ v6 = 0 then
  (dnB (dnGI (some v3) 4 2) fun v7 =>
  dnB (fJ9_floorMod_7cf53 p3 v7) fun v8 =>
  dnB (dnGR r0 5 3) fun v9 =>
  dnB (dnCv v9 4 (fX5_copyFrom v9 (some v3))) fun _ =>
  dnB (dnGR r0 5 3) fun v11 =>
  dnB (dnGI (some v3) 4 2) fun v12 =>
  dnB (fX6_append (some v3) v8 v11 0 (v12 - v8)) fun _ =>
  dnB (dnGR r0 5 3) fun v14 =>
  dnB (dnGI (some v3) 4 2) fun v15 =>
  dnB (fX6_append (some v3) 0 v14 (v15 - v8) v8) fun _ =>
  dnB (dnGI (some v3) 4 2) fun v17 =>
  dnP v17)
  else
  (dnP 0))
abbrev jX6_rotate (w : dnWd) (x : dnX) (b : Nat) := dnD w x b (fun _ => True) cX6_rotate RX6 6 rmX6_rotate "rotate" eI
set_option maxHeartbeats 4000000 in
set_option maxRecDepth 100000 in
theorem mX6_rotate (w : dnWd) (x : dnX) (b : Nat) (r0 : Option Nat) (p1 : Int32) (p2 : Int32) (p3 : Int32) : dnMt w x b yX6_rotate cX6_rotate 6 (some .int) rmX6_rotate eI [dnV b r0, .int p1, .int p2, .int p3] (fX6_rotate r0 p1 p2 p3) := by
  have hlv : lv_args 0 [dnV b r0, .int p1, .int p2, .int p3] = [(0, dnV b r0), (1, .int p1), (2, .int p2), (3, .int p3)] := by cases r0 <;> rfl
  refine dn_mt (by decide +kernel) roI (by cases r0 <;> exact (Nat.le_of_ble_eq_true rfl)) ?_
  rw [hlv]
  refine dn_top ?_
  show jX6_rotate w x b 0 0 0 _ [] (dnB _ dnP)
  unfold fX6_rotate
  refine dn_aload_n (pc := 0) r0 0 dX6_rotate_0 rfl ?_
  refine dn_getR (pc := 1) r0 lRX6_23 dX6_rotate_1 (fun v1 => ?_)
  refine dn_iload_n (pc := 4) 1 dX6_rotate_4 rfl ?_
  refine dn_iload_n (pc := 5) 2 dX6_rotate_5 rfl ?_
  refine dn_callV0R (pc := 6) [.int p1, .int p2] v1 kRX6_35 (mX9_rowAt w x b v1 p1 p2) rfl rfl (Nat.le_of_ble_eq_true rfl) ⟨(Nat.le_of_ble_eq_true rfl), (Nat.le_of_ble_eq_true rfl)⟩ ⟨rfl, rfl, (Nat.le_of_ble_eq_true rfl), (Nat.le_of_ble_eq_true rfl)⟩ dX6_rotate_6 (fun v2 => ?_)
  refine dn_astore (pc := 9) v2 dX6_rotate_9 (Nat.le_of_ble_eq_true rfl) (dnKp_nb 3 rfl rfl rfl (dnKp_of (lv2 := [(0, dnV b r0), (1, .int p1), (2, .int p2)]) [0, 1, 2] rfl rfl)) ?_
  refine dn_aload (pc := 11) v2 0 dX6_rotate_11 rfl ?_
  refine dn_ifnonnull (pc := 13) v2 26 dX6_rotate_13 rfl (fun e_ => ?_) (fun v3 e_ => ?_)
  · subst e_
    refine dn_aload_n (pc := 16) r0 2 dX6_rotate_16 rfl ?_
    refine dn_getR (pc := 17) r0 lRX6_23 dX6_rotate_17 (fun v4 => ?_)
    refine dn_iload_n (pc := 20) 3 dX6_rotate_20 rfl ?_
    refine dn_iload_n (pc := 21) 4 dX6_rotate_21 rfl ?_
    refine dn_callV0I (pc := 22) [.int p1, .int p2] v4 kRX6_41 (mX9_rowFault w x b v4 p1 p2) rfl rfl (Nat.le_of_ble_eq_true rfl) ⟨(Nat.le_of_ble_eq_true rfl), (Nat.le_of_ble_eq_true rfl)⟩ ⟨rfl, rfl, (Nat.le_of_ble_eq_true rfl), (Nat.le_of_ble_eq_true rfl)⟩ dX6_rotate_22 (fun v5 => ?_)
    exact dn_ret (Nat.le_of_ble_eq_true rfl) (Nat.le_of_ble_eq_true rfl) rfl dX6_rotate_25
  · subst e_
    refine dn_aload (pc := 26) (some v3) 0 dX6_rotate_26 rfl ?_
    refine dn_getI (pc := 28) (some v3) lRX6_92 dX6_rotate_28 (fun v6 => ?_)
    refine dn_if_ne (pc := 31) 36 dX6_rotate_31 rfl (fun _ => ?_) (fun _ => ?_)
    · refine dn_iload_n (pc := 36) 1 dX6_rotate_36 rfl ?_
      refine dn_aload (pc := 37) (some v3) 0 dX6_rotate_37 rfl ?_
      refine dn_getI (pc := 39) (some v3) lRX6_92 dX6_rotate_39 (fun v7 => ?_)
      refine dn_callS0I (pc := 42) [.int p3, .int v7]  kRX6_126 (mJ9_floorMod_7cf53 w x b p3 v7) rfl rfl (Nat.le_of_ble_eq_true rfl) ⟨(Nat.le_of_ble_eq_true rfl), (Nat.le_of_ble_eq_true rfl)⟩ ⟨rfl, rfl, (Nat.le_of_ble_eq_true rfl), (Nat.le_of_ble_eq_true rfl)⟩ dX6_rotate_42 (fun v8 => ?_)
      refine dn_istore (pc := 45) dX6_rotate_45 (Nat.le_of_ble_eq_true rfl) (dnKp_nb 0 rfl (dn_cat b _) rfl (dnKp_of (lv2 := [(0, dnV b r0)]) [2] rfl rfl)) ?_
      refine dn_aload_n (pc := 47) r0 2 dX6_rotate_47 rfl ?_
      refine dn_getR (pc := 48) r0 lRX6_20 dX6_rotate_48 (fun v9 => ?_)
      refine dn_aload (pc := 51) (some v3) 1 dX6_rotate_51 rfl ?_
      refine dn_callV0U (pc := 53) [dnV b (some v3)] v9 kRX6_122 (mX5_copyFrom w x b v9 (some v3)) rfl rfl (Nat.le_of_ble_eq_true rfl) ⟨(Nat.le_of_ble_eq_true rfl), (Nat.le_of_ble_eq_true rfl)⟩ ⟨rfl, rfl, (Nat.le_of_ble_eq_true rfl), (Nat.le_of_ble_eq_true rfl)⟩ dX6_rotate_53 (fun _ => ?_)
      refine dn_aload (pc := 56) (some v3) 1 dX6_rotate_56 rfl ?_
      refine dn_iload (pc := 58) 0 dX6_rotate_58 rfl ?_
      refine dn_aload_n (pc := 60) r0 2 dX6_rotate_60 rfl ?_
      refine dn_getR (pc := 61) r0 lRX6_20 dX6_rotate_61 (fun v11 => ?_)
      refine dn_iconst (pc := 64) (v := 0) dX6_rotate_64 rfl ?_
      refine dn_aload (pc := 65) (some v3) 1 dX6_rotate_65 rfl ?_
      refine dn_getI (pc := 67) (some v3) lRX6_92 dX6_rotate_67 (fun v12 => ?_)
      refine dn_iload (pc := 70) 0 dX6_rotate_70 rfl ?_
      refine dn_isub (pc := 72) dX6_rotate_72 ?_
      refine dn_callS0U (pc := 73) [dnV b (some v3), .int v8, dnV b v11, .int 0, .int (v12 - v8)]  kRX6_104 (mX6_append w x b (some v3) v8 v11 0 (v12 - v8)) rfl rfl (Nat.le_of_ble_eq_true rfl) ⟨(Nat.le_of_ble_eq_true rfl), (Nat.le_of_ble_eq_true rfl)⟩ ⟨rfl, rfl, (Nat.le_of_ble_eq_true rfl), (Nat.le_of_ble_eq_true rfl)⟩ dX6_rotate_73 (fun _ => ?_)
      refine dn_aload (pc := 76) (some v3) 1 dX6_rotate_76 rfl ?_
      refine dn_iconst (pc := 78) (v := 0) dX6_rotate_78 rfl ?_
      refine dn_aload_n (pc := 79) r0 2 dX6_rotate_79 rfl ?_
      refine dn_getR (pc := 80) r0 lRX6_20 dX6_rotate_80 (fun v14 => ?_)
      refine dn_aload (pc := 83) (some v3) 1 dX6_rotate_83 rfl ?_
      refine dn_getI (pc := 85) (some v3) lRX6_92 dX6_rotate_85 (fun v15 => ?_)
      refine dn_iload (pc := 88) 0 dX6_rotate_88 rfl ?_
      refine dn_isub (pc := 90) dX6_rotate_90 ?_
      refine dn_iload (pc := 91) 0 dX6_rotate_91 rfl ?_
      refine dn_callS0U (pc := 93) [dnV b (some v3), .int 0, dnV b v14, .int (v15 - v8), .int v8]  kRX6_104 (mX6_append w x b (some v3) 0 v14 (v15 - v8) v8) rfl rfl (Nat.le_of_ble_eq_true rfl) ⟨(Nat.le_of_ble_eq_true rfl), (Nat.le_of_ble_eq_true rfl)⟩ ⟨rfl, rfl, (Nat.le_of_ble_eq_true rfl), (Nat.le_of_ble_eq_true rfl)⟩ dX6_rotate_93 (fun _ => ?_)
      refine dn_aload (pc := 96) (some v3) 1 dX6_rotate_96 rfl ?_
      refine dn_getI (pc := 98) (some v3) lRX6_92 dX6_rotate_98 (fun v17 => ?_)
      exact dn_ret (Nat.le_of_ble_eq_true rfl) (Nat.le_of_ble_eq_true rfl) rfl dX6_rotate_101
    · refine dn_iconst (pc := 34) (v := 0) dX6_rotate_34 rfl ?_
      exact dn_ret (Nat.le_of_ble_eq_true rfl) (Nat.le_of_ble_eq_true rfl) rfl dX6_rotate_35
abbrev rmX6_insert : Room := { frames := 3, cells := 0, slots := 0, locals := 65 }
def fX6_insert_j60 (l0 : Option Nat) (l1 : Option Nat) (l3 : Int32) : dnM Unit :=
  dnB (dnGR l0 5 2) fun v1 =>
  dnB (dnCv l1 4 (fX5_accept l1 l3 v1 0)) fun v2 =>
  dnP ()
def fX6_insert_b25 (c0 : Option Nat) (c1 : Option Nat) (s25 : Int32) : dnM ((Int32) ⊕ (Int32)) :=
  if s25 ≤ 0 then
  (dnP (.inr s25))
  else
  (dnB (dnGR c0 5 2) fun v8 =>
  dnB (dnCv c1 4 (fX5_exceeds c1 (s25 - 1) v8 0)) fun v9 =>
  if v9 = true then
  (dnB (dnCv c1 4 (fX5_accept c1 s25 c1 (s25 - 1))) fun v10 =>
  dnP (.inl (s25 + (-1))))
  else
  (dnP (.inr s25)))
def fX6_insert (r0 : Option Nat) (r1 : Option Nat) (p2 : Int32) : dnM Unit :=
  dnB (dnGR r0 5 2) fun v3 =>
  dnB (dnGI r1 4 1) fun v4 =>
  dnB (dnCv v3 4 (fX5_begin v3 v4 1)) fun _ =>
  dnB (dnGR r0 5 2) fun v6 =>
  dnB (dnCv v6 4 (fX5_accept v6 0 r1 p2)) fun v7 =>
  dnB (dnIt 1000 (fX6_insert_b25 r0 r1) p2) fun q25 =>
  fX6_insert_j60 r0 r1 q25
abbrev jX6_insert (w : dnWd) (x : dnX) (b : Nat) := dnD w x b (fun _ => True) cX6_insert RX6 4 rmX6_insert "insert" eU
set_option maxHeartbeats 4000000 in
set_option maxRecDepth 100000 in
theorem mX6_insert (w : dnWd) (x : dnX) (b : Nat) (r0 : Option Nat) (r1 : Option Nat) (p2 : Int32) : dnMt w x b yX6_insert cX6_insert 4 none rmX6_insert eU [dnV b r0, dnV b r1, .int p2] (fX6_insert r0 r1 p2) := by
  have hlv : lv_args 0 [dnV b r0, dnV b r1, .int p2] = [(0, dnV b r0), (1, dnV b r1), (2, .int p2)] := by cases r0 <;> cases r1 <;> rfl
  refine dn_mt (by decide +kernel) roU (by cases r0 <;> cases r1 <;> exact (Nat.le_of_ble_eq_true rfl)) ?_
  rw [hlv]
  refine dn_top ?_
  show jX6_insert w x b 0 0 0 _ [] (dnB _ dnP)
  unfold fX6_insert
  have hj60 : ∀ (l0 : Option Nat) (l1 : Option Nat) (l3 : Int32), jX6_insert w x b 60 0 0 [(0, dnV b l0), (1, dnV b l1), (3, .int l3)] [] (dnB (fX6_insert_j60 l0 l1 l3) dnP) := by
    intro l0 l1 l3
    unfold fX6_insert_j60
    refine dn_aload_n (pc := 60) l1 1 dX6_insert_60 rfl ?_
    refine dn_iload_n (pc := 61) 2 dX6_insert_61 rfl ?_
    refine dn_aload_n (pc := 62) l0 0 dX6_insert_62 rfl ?_
    refine dn_getR (pc := 63) l0 lRX6_14 dX6_insert_63 (fun v1 => ?_)
    refine dn_iconst (pc := 66) (v := 0) dX6_insert_66 rfl ?_
    refine dn_callV0Z (pc := 67) [.int l3, dnV b v1, .int 0] l1 kRX6_60 (mX5_accept w x b l1 l3 v1 0) rfl rfl (Nat.le_of_ble_eq_true rfl) ⟨(Nat.le_of_ble_eq_true rfl), (Nat.le_of_ble_eq_true rfl)⟩ ⟨rfl, rfl, (Nat.le_of_ble_eq_true rfl), (Nat.le_of_ble_eq_true rfl)⟩ dX6_insert_67 (fun v2 => ?_)
    refine dn_pop (pc := 70) dX6_insert_70 rfl ?_
    exact dn_ret (Nat.le_of_ble_eq_true rfl) (Nat.le_of_ble_eq_true rfl) rfl dX6_insert_71
  refine dn_aload_n (pc := 0) r0 0 dX6_insert_0 rfl ?_
  refine dn_getR (pc := 1) r0 lRX6_14 dX6_insert_1 (fun v3 => ?_)
  refine dn_aload_n (pc := 4) r1 1 dX6_insert_4 rfl ?_
  refine dn_getI (pc := 5) r1 lRX6_48 dX6_insert_5 (fun v4 => ?_)
  refine dn_iconst (pc := 8) (v := 1) dX6_insert_8 rfl ?_
  refine dn_callV0U (pc := 9) [.int v4, .int 1] v3 kRX6_56 (mX5_begin w x b v3 v4 1) rfl rfl (Nat.le_of_ble_eq_true rfl) ⟨(Nat.le_of_ble_eq_true rfl), (Nat.le_of_ble_eq_true rfl)⟩ ⟨rfl, rfl, (Nat.le_of_ble_eq_true rfl), (Nat.le_of_ble_eq_true rfl)⟩ dX6_insert_9 (fun _ => ?_)
  refine dn_aload_n (pc := 12) r0 0 dX6_insert_12 rfl ?_
  refine dn_getR (pc := 13) r0 lRX6_14 dX6_insert_13 (fun v6 => ?_)
  refine dn_iconst (pc := 16) (v := 0) dX6_insert_16 rfl ?_
  refine dn_aload_n (pc := 17) r1 1 dX6_insert_17 rfl ?_
  refine dn_iload_n (pc := 18) 2 dX6_insert_18 rfl ?_
  refine dn_callV0Z (pc := 19) [.int 0, dnV b r1, .int p2] v6 kRX6_60 (mX5_accept w x b v6 0 r1 p2) rfl rfl (Nat.le_of_ble_eq_true rfl) ⟨(Nat.le_of_ble_eq_true rfl), (Nat.le_of_ble_eq_true rfl)⟩ ⟨rfl, rfl, (Nat.le_of_ble_eq_true rfl), (Nat.le_of_ble_eq_true rfl)⟩ dX6_insert_19 (fun v7 => ?_)
  refine dn_pop (pc := 22) dX6_insert_22 rfl ?_
  refine dn_iload_n (pc := 23) 2 dX6_insert_23 rfl ?_
  refine dn_istore_n (pc := 24) dX6_insert_24 (Nat.le_of_ble_eq_true rfl) (dnKp_of (lv2 := [(0, dnV b r0), (1, dnV b r1)]) [0, 1] rfl rfl) ?_
  refine dn_assoc ?_
  refine dn_lv [1, 2, 0] (lv2 := (fun s => [(0, dnV b r0), (1, dnV b r1), (3, .int s)]) p2) rfl ?_
  refine dn_loopE (pc := 25) (body := fX6_insert_b25 r0 r1) 60 (fun s => [(0, dnV b r0), (1, dnV b r1), (3, .int s)]) (fun q => [(0, dnV b r0), (1, dnV b r1), (3, .int q)]) (fun s25 K25 E25 hK25 hE25 => ?_) (fun q25 => ?_) 1000 p2
  · unfold fX6_insert_b25
    refine dn_iload_n (pc := 25) 2 dX6_insert_25 rfl ?_
    refine dn_if_le (pc := 26) 60 dX6_insert_26 rfl (fun _ => ?_) (fun _ => ?_)
    · refine dn_leaf ?_
      exact dn_lv [0, 1, 2] rfl (hE25 s25)
    · refine dn_aload_n (pc := 29) r1 1 dX6_insert_29 rfl ?_
      refine dn_iload_n (pc := 30) 2 dX6_insert_30 rfl ?_
      refine dn_iconst (pc := 31) (v := 1) dX6_insert_31 rfl ?_
      refine dn_isub (pc := 32) dX6_insert_32 ?_
      refine dn_aload_n (pc := 33) r0 0 dX6_insert_33 rfl ?_
      refine dn_getR (pc := 34) r0 lRX6_14 dX6_insert_34 (fun v8 => ?_)
      refine dn_iconst (pc := 37) (v := 0) dX6_insert_37 rfl ?_
      refine dn_callV0Z (pc := 38) [.int (s25 - 1), dnV b v8, .int 0] r1 kRX6_135 (mX5_exceeds w x b r1 (s25 - 1) v8 0) rfl rfl (Nat.le_of_ble_eq_true rfl) ⟨(Nat.le_of_ble_eq_true rfl), (Nat.le_of_ble_eq_true rfl)⟩ ⟨rfl, rfl, (Nat.le_of_ble_eq_true rfl), (Nat.le_of_ble_eq_true rfl)⟩ dX6_insert_38 (fun v9 => ?_)
      refine dn_ifz_eq (pc := 41) 60 dX6_insert_41 rfl (fun _ => ?_) (fun _ => ?_)
      · refine dn_aload_n (pc := 44) r1 1 dX6_insert_44 rfl ?_
        refine dn_iload_n (pc := 45) 2 dX6_insert_45 rfl ?_
        refine dn_aload_n (pc := 46) r1 1 dX6_insert_46 rfl ?_
        refine dn_iload_n (pc := 47) 2 dX6_insert_47 rfl ?_
        refine dn_iconst (pc := 48) (v := 1) dX6_insert_48 rfl ?_
        refine dn_isub (pc := 49) dX6_insert_49 ?_
        refine dn_callV0Z (pc := 50) [.int s25, dnV b r1, .int (s25 - 1)] r1 kRX6_60 (mX5_accept w x b r1 s25 r1 (s25 - 1)) rfl rfl (Nat.le_of_ble_eq_true rfl) ⟨(Nat.le_of_ble_eq_true rfl), (Nat.le_of_ble_eq_true rfl)⟩ ⟨rfl, rfl, (Nat.le_of_ble_eq_true rfl), (Nat.le_of_ble_eq_true rfl)⟩ dX6_insert_50 (fun v10 => ?_)
        refine dn_pop (pc := 53) dX6_insert_53 rfl ?_
        refine dn_iinc (pc := 54) (s25 + (-1)) 2 dX6_insert_54 rfl rfl (Nat.le_of_ble_eq_true rfl) (dnKp_of (lv2 := [(0, dnV b r0), (1, dnV b r1)]) [0, 1] rfl rfl) ?_
        refine dn_goto (pc := 57) 25 dX6_insert_57 rfl ?_
        refine dn_leaf ?_
        exact dn_lv [1, 2, 0] rfl (hK25 (s25 + (-1)))
      · refine dn_leaf ?_
        exact dn_lv [0, 1, 2] rfl (hE25 s25)
  · exact dn_lv [0, 1, 2] rfl (hj60 r0 r1 q25)
abbrev rmX6_sortRow : Room := { frames := 4, cells := 0, slots := 0, locals := 88 }
def fX6_sortRow_b48 (c0 : Option Nat) (c3 : Option Nat) (s48 : Int32) : dnM ((Int32) ⊕ (Unit)) :=
  dnB (dnGI c3 4 2) fun v10 =>
  if v10 ≤ s48 then
  (dnP (.inr ()))
  else
  (dnB (dnCv c0 5 (fX6_insert c0 c3 s48)) fun _ =>
  dnP (.inl (s48 + 1)))
def fX6_sortRow_j107 (l0 : Option Nat) (l3 : Option Nat) (l5 : Int32) (s0 : Int32) (s1 : Bool) : dnM ((Int32 × Int32) ⊕ (Int32)) :=
  dnP (.inl ((s0 + (dnZ s1)), (l5 + 1)))
def fX6_sortRow_b76 (c0 : Option Nat) (c3 : Option Nat) (s76 : Int32 × Int32) : dnM ((Int32 × Int32) ⊕ (Int32)) :=
  dnB (dnGI c3 4 2) fun v12 =>
  if v12 ≤ s76.2 then
  (dnP (.inr s76.1))
  else
  (dnB (dnGR c0 5 3) fun v13 =>
  dnB (dnCv c3 4 (fX5_matches c3 s76.2 v13 s76.2)) fun v14 =>
  if v14 = true then
  (fX6_sortRow_j107 c0 c3 s76.2 s76.1 false)
  else
  (fX6_sortRow_j107 c0 c3 s76.2 s76.1 true))
def fX6_sortRow (r0 : Option Nat) (p1 : Int32) (p2 : Int32) : dnM Int32 :=
  dnB (dnGR r0 5 0) fun v1 =>
  dnB (dnCv v1 7 (fX9_rowAt v1 p1 p2)) fun v2 =>
  v2.elim
  (dnB (dnGR r0 5 0) fun v4 =>
  dnB (dnCv v4 7 (fX9_rowFault v4 p1 p2)) fun v5 =>
  dnP v5)
  (fun v3 => dnB (dnGI (some v3) 4 1) fun v6 =>
  dnB (fX12_isPlain v6) fun v7 =>
  if v7 = true then
  (dnB (dnGR r0 5 3) fun v8 =>
  dnB (dnCv v8 4 (fX5_copyFrom v8 (some v3))) fun _ =>
  dnB (dnIt 1000 (fX6_sortRow_b48 r0 (some v3)) 1) fun q48 =>
  dnB (dnIt 1000 (fX6_sortRow_b76 r0 (some v3)) (0, 0)) fun q76 =>
  dnP q76)
  else
  (dnP (-7)))
abbrev jX6_sortRow (w : dnWd) (x : dnX) (b : Nat) := dnD w x b (fun _ => True) cX6_sortRow RX6 6 rmX6_sortRow "sortRow" eI
set_option maxHeartbeats 4000000 in
set_option maxRecDepth 100000 in
theorem mX6_sortRow (w : dnWd) (x : dnX) (b : Nat) (r0 : Option Nat) (p1 : Int32) (p2 : Int32) : dnMt w x b yX6_sortRow cX6_sortRow 6 (some .int) rmX6_sortRow eI [dnV b r0, .int p1, .int p2] (fX6_sortRow r0 p1 p2) := by
  have hlv : lv_args 0 [dnV b r0, .int p1, .int p2] = [(0, dnV b r0), (1, .int p1), (2, .int p2)] := by cases r0 <;> rfl
  refine dn_mt (by decide +kernel) roI (by cases r0 <;> exact (Nat.le_of_ble_eq_true rfl)) ?_
  rw [hlv]
  refine dn_top ?_
  show jX6_sortRow w x b 0 0 0 _ [] (dnB _ dnP)
  unfold fX6_sortRow
  refine dn_aload_n (pc := 0) r0 0 dX6_sortRow_0 rfl ?_
  refine dn_getR (pc := 1) r0 lRX6_23 dX6_sortRow_1 (fun v1 => ?_)
  refine dn_iload_n (pc := 4) 1 dX6_sortRow_4 rfl ?_
  refine dn_iload_n (pc := 5) 2 dX6_sortRow_5 rfl ?_
  refine dn_callV0R (pc := 6) [.int p1, .int p2] v1 kRX6_35 (mX9_rowAt w x b v1 p1 p2) rfl rfl (Nat.le_of_ble_eq_true rfl) ⟨(Nat.le_of_ble_eq_true rfl), (Nat.le_of_ble_eq_true rfl)⟩ ⟨rfl, rfl, (Nat.le_of_ble_eq_true rfl), (Nat.le_of_ble_eq_true rfl)⟩ dX6_sortRow_6 (fun v2 => ?_)
  refine dn_astore_n (pc := 9) v2 dX6_sortRow_9 (Nat.le_of_ble_eq_true rfl) (dnKp_nb 2 rfl rfl rfl (dnKp_of (lv2 := [(0, dnV b r0), (1, .int p1)]) [0, 1] rfl rfl)) ?_
  refine dn_aload_n (pc := 10) v2 0 dX6_sortRow_10 rfl ?_
  refine dn_ifnonnull (pc := 11) v2 24 dX6_sortRow_11 rfl (fun e_ => ?_) (fun v3 e_ => ?_)
  · subst e_
    refine dn_aload_n (pc := 14) r0 2 dX6_sortRow_14 rfl ?_
    refine dn_getR (pc := 15) r0 lRX6_23 dX6_sortRow_15 (fun v4 => ?_)
    refine dn_iload_n (pc := 18) 3 dX6_sortRow_18 rfl ?_
    refine dn_iload_n (pc := 19) 1 dX6_sortRow_19 rfl ?_
    refine dn_callV0I (pc := 20) [.int p1, .int p2] v4 kRX6_41 (mX9_rowFault w x b v4 p1 p2) rfl rfl (Nat.le_of_ble_eq_true rfl) ⟨(Nat.le_of_ble_eq_true rfl), (Nat.le_of_ble_eq_true rfl)⟩ ⟨rfl, rfl, (Nat.le_of_ble_eq_true rfl), (Nat.le_of_ble_eq_true rfl)⟩ dX6_sortRow_20 (fun v5 => ?_)
    exact dn_ret (Nat.le_of_ble_eq_true rfl) (Nat.le_of_ble_eq_true rfl) rfl dX6_sortRow_23
  · subst e_
    refine dn_aload_n (pc := 24) (some v3) 0 dX6_sortRow_24 rfl ?_
    refine dn_getI (pc := 25) (some v3) lRX6_48 dX6_sortRow_25 (fun v6 => ?_)
    refine dn_callSN0Z (pc := 28) [.int v6]  kRX6_78 (mX12_isPlain w x b v6) rfl rfl (Nat.le_of_ble_eq_true rfl) ⟨(Nat.le_of_ble_eq_true rfl), (Nat.le_of_ble_eq_true rfl)⟩ ⟨rfl, rfl, (Nat.le_of_ble_eq_true rfl), (Nat.le_of_ble_eq_true rfl)⟩ dX6_sortRow_28 (fun v7 => ?_)
    refine dn_ifz_ne (pc := 31) 37 dX6_sortRow_31 rfl (fun _ => ?_) (fun _ => ?_)
    · refine dn_aload_n (pc := 37) r0 2 dX6_sortRow_37 rfl ?_
      refine dn_getR (pc := 38) r0 lRX6_20 dX6_sortRow_38 (fun v8 => ?_)
      refine dn_aload_n (pc := 41) (some v3) 0 dX6_sortRow_41 rfl ?_
      refine dn_callV0U (pc := 42) [dnV b (some v3)] v8 kRX6_122 (mX5_copyFrom w x b v8 (some v3)) rfl rfl (Nat.le_of_ble_eq_true rfl) ⟨(Nat.le_of_ble_eq_true rfl), (Nat.le_of_ble_eq_true rfl)⟩ ⟨rfl, rfl, (Nat.le_of_ble_eq_true rfl), (Nat.le_of_ble_eq_true rfl)⟩ dX6_sortRow_42 (fun _ => ?_)
      refine dn_iconst (pc := 45) (v := 1) dX6_sortRow_45 rfl ?_
      refine dn_istore (pc := 46) dX6_sortRow_46 (Nat.le_of_ble_eq_true rfl) (dnKp_nb 0 rfl (dn_cat b _) rfl (dnKp_of (lv2 := [(0, dnV b r0)]) [2] rfl rfl)) ?_
      refine dn_assoc ?_
      refine dn_lv [2, 1, 0] (lv2 := (fun s => [(0, dnV b r0), (3, dnV b (some v3)), (4, .int s)]) 1) rfl ?_
      refine dn_loopE (pc := 48) (body := fX6_sortRow_b48 r0 (some v3)) 70 (fun s => [(0, dnV b r0), (3, dnV b (some v3)), (4, .int s)]) (fun q => [(0, dnV b r0), (3, dnV b (some v3))]) (fun s48 K48 E48 hK48 hE48 => ?_) (fun q48 => ?_) 1000 1
      · unfold fX6_sortRow_b48
        refine dn_iload (pc := 48) 2 dX6_sortRow_48 rfl ?_
        refine dn_aload_n (pc := 50) (some v3) 1 dX6_sortRow_50 rfl ?_
        refine dn_getI (pc := 51) (some v3) lRX6_92 dX6_sortRow_51 (fun v10 => ?_)
        refine dn_icmp_ge (pc := 54) 70 dX6_sortRow_54 rfl (fun _ => ?_) (fun _ => ?_)
        · refine dn_leaf ?_
          exact dn_lv [0, 1] rfl (hE48 ())
        · refine dn_aload_n (pc := 57) r0 0 dX6_sortRow_57 rfl ?_
          refine dn_aload_n (pc := 58) (some v3) 1 dX6_sortRow_58 rfl ?_
          refine dn_iload (pc := 59) 2 dX6_sortRow_59 rfl ?_
          refine dn_callV0U (pc := 61) [dnV b (some v3), .int s48] r0 kRX6_131 (mX6_insert w x b r0 (some v3) s48) rfl rfl (Nat.le_of_ble_eq_true rfl) ⟨(Nat.le_of_ble_eq_true rfl), (Nat.le_of_ble_eq_true rfl)⟩ ⟨rfl, rfl, (Nat.le_of_ble_eq_true rfl), (Nat.le_of_ble_eq_true rfl)⟩ dX6_sortRow_61 (fun _ => ?_)
          refine dn_iinc (pc := 64) (s48 + 1) 2 dX6_sortRow_64 rfl rfl (Nat.le_of_ble_eq_true rfl) (dnKp_nb 1 rfl (dn_cat b _) rfl (dnKp_of (lv2 := [(0, dnV b r0)]) [0] rfl rfl)) ?_
          refine dn_goto (pc := 67) 48 dX6_sortRow_67 rfl ?_
          refine dn_leaf ?_
          exact dn_lv [2, 1, 0] rfl (hK48 (s48 + 1))
      · refine dn_iconst (pc := 70) (v := 0) dX6_sortRow_70 rfl ?_
        refine dn_istore (pc := 71) dX6_sortRow_71 (Nat.le_of_ble_eq_true rfl) (dnKp_nb 1 rfl (dn_cat b _) rfl (dnKp_of (lv2 := [(0, dnV b r0)]) [0] rfl rfl)) ?_
        refine dn_iconst (pc := 73) (v := 0) dX6_sortRow_73 rfl ?_
        refine dn_istore (pc := 74) dX6_sortRow_74 (Nat.le_of_ble_eq_true rfl) (dnKp_nb 0 rfl rfl rfl (dnKp_of (lv2 := [(3, dnV b (some v3)), (0, dnV b r0)]) [1, 2] rfl rfl)) ?_
        refine dn_assoc ?_
        refine dn_lv [3, 2, 1, 0] (lv2 := (fun s => [(0, dnV b r0), (3, dnV b (some v3)), (4, .int s.1), (5, .int s.2)]) (0, 0)) rfl ?_
        refine dn_loopE (pc := 76) (body := fX6_sortRow_b76 r0 (some v3)) 116 (fun s => [(0, dnV b r0), (3, dnV b (some v3)), (4, .int s.1), (5, .int s.2)]) (fun q => [(4, .int q)]) (fun s76 K76 E76 hK76 hE76 => ?_) (fun q76 => ?_) 1000 (0, 0)
        · unfold fX6_sortRow_b76
          have hj107 : ∀ (l5 : Int32) (s0 : Int32) (s1 : Bool), jX6_sortRow w x b 107 0 0 [(0, dnV b r0), (3, dnV b (some v3)), (5, .int l5)] [.int (dnZ s1), .int s0] (dnB (fX6_sortRow_j107 r0 (some v3) l5 s0 s1) (dnKo K76 E76)) := by
            intro l5 s0 s1
            unfold fX6_sortRow_j107
            refine dn_iadd (pc := 107) dX6_sortRow_107 ?_
            refine dn_istore (pc := 108) dX6_sortRow_108 (Nat.le_of_ble_eq_true rfl) (dnKp_nb 1 rfl (dn_cat b _) rfl (dnKp_of (lv2 := [(0, dnV b r0), (5, .int l5)]) [0, 2] rfl rfl)) ?_
            refine dn_iinc (pc := 110) (l5 + 1) 3 dX6_sortRow_110 rfl rfl (Nat.le_of_ble_eq_true rfl) (dnKp_nb 0 rfl rfl rfl (dnKp_of (lv2 := [(3, dnV b (some v3)), (0, dnV b r0)]) [1, 2] rfl rfl)) ?_
            refine dn_goto (pc := 113) 76 dX6_sortRow_113 rfl ?_
            refine dn_leaf ?_
            exact dn_lv [3, 2, 1, 0] rfl (hK76 ((s0 + (dnZ s1)), (l5 + 1)))
          refine dn_iload (pc := 76) 3 dX6_sortRow_76 rfl ?_
          refine dn_aload_n (pc := 78) (some v3) 1 dX6_sortRow_78 rfl ?_
          refine dn_getI (pc := 79) (some v3) lRX6_92 dX6_sortRow_79 (fun v12 => ?_)
          refine dn_icmp_ge (pc := 82) 116 dX6_sortRow_82 rfl (fun _ => ?_) (fun _ => ?_)
          · refine dn_leaf ?_
            exact dn_lv [2] rfl (hE76 s76.1)
          · refine dn_iload (pc := 85) 2 dX6_sortRow_85 rfl ?_
            refine dn_aload_n (pc := 87) (some v3) 1 dX6_sortRow_87 rfl ?_
            refine dn_iload (pc := 88) 3 dX6_sortRow_88 rfl ?_
            refine dn_aload_n (pc := 90) r0 0 dX6_sortRow_90 rfl ?_
            refine dn_getR (pc := 91) r0 lRX6_20 dX6_sortRow_91 (fun v13 => ?_)
            refine dn_iload (pc := 94) 3 dX6_sortRow_94 rfl ?_
            refine dn_callV0Z (pc := 96) [.int s76.2, dnV b v13, .int s76.2] (some v3) kRX6_95 (mX5_matches w x b (some v3) s76.2 v13 s76.2) rfl rfl (Nat.le_of_ble_eq_true rfl) ⟨(Nat.le_of_ble_eq_true rfl), (Nat.le_of_ble_eq_true rfl)⟩ ⟨rfl, rfl, (Nat.le_of_ble_eq_true rfl), (Nat.le_of_ble_eq_true rfl)⟩ dX6_sortRow_96 (fun v14 => ?_)
            refine dn_ifz_eq (pc := 99) 106 dX6_sortRow_99 rfl (fun _ => ?_) (fun _ => ?_)
            · refine dn_iconst (pc := 102) (v := 0) dX6_sortRow_102 rfl ?_
              refine dn_goto (pc := 103) 107 dX6_sortRow_103 rfl ?_
              exact dn_lv [0, 1, 3] rfl (hj107 s76.2 s76.1 false)
            · refine dn_iconst (pc := 106) (v := 1) dX6_sortRow_106 rfl ?_
              exact dn_lv [0, 1, 3] rfl (hj107 s76.2 s76.1 true)
        · refine dn_iload (pc := 116) 0 dX6_sortRow_116 rfl ?_
          exact dn_ret (Nat.le_of_ble_eq_true rfl) (Nat.le_of_ble_eq_true rfl) rfl dX6_sortRow_118
    · refine dn_bipush (pc := 34) (v := -7) dX6_sortRow_34 rfl ?_
      exact dn_ret (Nat.le_of_ble_eq_true rfl) (Nat.le_of_ble_eq_true rfl) rfl dX6_sortRow_36
abbrev rmX9_contentOf : Room := { frames := 3, cells := 0, slots := 0, locals := 64 }
def fX9_contentOf (r0 : Option Nat) (p1 : Int32) (p2 : Int32) : dnM Int32 :=
  dnB (dnCv r0 7 (fX9_placeFault r0 p1 p2)) fun v1 =>
  if 0 ≤ v1 then
  (dnB (dnCv r0 7 (fX9_rowAt r0 p1 p2)) fun v2 =>
  v2.elim
  (dnB (dnGR r0 7 1) fun v4 =>
  dnB (dnAI v4 100 ((p1 * 6) + p2)) fun v5 =>
  dnP (-v5))
  (fun v3 => dnB (dnGI (some v3) 4 1) fun v6 =>
  dnP v6))
  else
  (dnP v1)
abbrev jX9_contentOf (w : dnWd) (x : dnX) (b : Nat) := dnD w x b (fun _ => True) cX9_contentOf RX9 5 rmX9_contentOf "contentOf" eI
set_option maxHeartbeats 4000000 in
set_option maxRecDepth 100000 in
theorem mX9_contentOf (w : dnWd) (x : dnX) (b : Nat) (r0 : Option Nat) (p1 : Int32) (p2 : Int32) : dnMt w x b yX9_contentOf cX9_contentOf 5 (some .int) rmX9_contentOf eI [dnV b r0, .int p1, .int p2] (fX9_contentOf r0 p1 p2) := by
  have hlv : lv_args 0 [dnV b r0, .int p1, .int p2] = [(0, dnV b r0), (1, .int p1), (2, .int p2)] := by cases r0 <;> rfl
  refine dn_mt (by decide +kernel) roI (by cases r0 <;> exact (Nat.le_of_ble_eq_true rfl)) ?_
  rw [hlv]
  refine dn_top ?_
  show jX9_contentOf w x b 0 0 0 _ [] (dnB _ dnP)
  unfold fX9_contentOf
  refine dn_aload_n (pc := 0) r0 0 dX9_contentOf_0 rfl ?_
  refine dn_iload_n (pc := 1) 1 dX9_contentOf_1 rfl ?_
  refine dn_iload_n (pc := 2) 2 dX9_contentOf_2 rfl ?_
  refine dn_callV0I (pc := 3) [.int p1, .int p2] r0 kRX9_55 (mX9_placeFault w x b r0 p1 p2) rfl rfl (Nat.le_of_ble_eq_true rfl) ⟨(Nat.le_of_ble_eq_true rfl), (Nat.le_of_ble_eq_true rfl)⟩ ⟨rfl, rfl, (Nat.le_of_ble_eq_true rfl), (Nat.le_of_ble_eq_true rfl)⟩ dX9_contentOf_3 (fun v1 => ?_)
  refine dn_istore_n (pc := 6) dX9_contentOf_6 (Nat.le_of_ble_eq_true rfl) (dnKp_nb 2 rfl rfl rfl (dnKp_of (lv2 := [(0, dnV b r0), (1, .int p1)]) [0, 1] rfl rfl)) ?_
  refine dn_iload_n (pc := 7) 0 dX9_contentOf_7 rfl ?_
  refine dn_if_ge (pc := 8) 13 dX9_contentOf_8 rfl (fun _ => ?_) (fun _ => ?_)
  · refine dn_aload_n (pc := 13) r0 2 dX9_contentOf_13 rfl ?_
    refine dn_iload_n (pc := 14) 3 dX9_contentOf_14 rfl ?_
    refine dn_iload_n (pc := 15) 1 dX9_contentOf_15 rfl ?_
    refine dn_callV0R (pc := 16) [.int p1, .int p2] r0 kRX9_94 (mX9_rowAt w x b r0 p1 p2) rfl rfl (Nat.le_of_ble_eq_true rfl) ⟨(Nat.le_of_ble_eq_true rfl), (Nat.le_of_ble_eq_true rfl)⟩ ⟨rfl, rfl, (Nat.le_of_ble_eq_true rfl), (Nat.le_of_ble_eq_true rfl)⟩ dX9_contentOf_16 (fun v2 => ?_)
    refine dn_astore (pc := 19) v2 dX9_contentOf_19 (Nat.le_of_ble_eq_true rfl) (dnKp_of (lv2 := [(2, .int p2), (0, dnV b r0), (1, .int p1)]) [1, 2, 3] rfl rfl) ?_
    refine dn_aload (pc := 21) v2 0 dX9_contentOf_21 rfl ?_
    refine dn_ifnonnull (pc := 23) v2 41 dX9_contentOf_23 rfl (fun e_ => ?_) (fun v3 e_ => ?_)
    · subst e_
      refine dn_aload_n (pc := 26) r0 2 dX9_contentOf_26 rfl ?_
      refine dn_getR (pc := 27) r0 lRX9_15 dX9_contentOf_27 (fun v4 => ?_)
      refine dn_iload_n (pc := 30) 3 dX9_contentOf_30 rfl ?_
      refine dn_bipush (pc := 31) (v := 6) dX9_contentOf_31 rfl ?_
      refine dn_imul (pc := 33) dX9_contentOf_33 ?_
      refine dn_iload_n (pc := 34) 1 dX9_contentOf_34 rfl ?_
      refine dn_iadd (pc := 35) dX9_contentOf_35 ?_
      refine dn_iald (pc := 36) v4 dX9_contentOf_36 (fun v5 => ?_)
      refine dn_ineg (pc := 37) dX9_contentOf_37 ?_
      refine dn_goto (pc := 38) 46 dX9_contentOf_38 rfl ?_
      exact dn_ret (Nat.le_of_ble_eq_true rfl) (Nat.le_of_ble_eq_true rfl) rfl dX9_contentOf_46
    · subst e_
      refine dn_aload (pc := 41) (some v3) 0 dX9_contentOf_41 rfl ?_
      refine dn_getI (pc := 43) (some v3) lRX9_97 dX9_contentOf_43 (fun v6 => ?_)
      exact dn_ret (Nat.le_of_ble_eq_true rfl) (Nat.le_of_ble_eq_true rfl) rfl dX9_contentOf_46
  · refine dn_iload_n (pc := 11) 0 dX9_contentOf_11 rfl ?_
    exact dn_ret (Nat.le_of_ble_eq_true rfl) (Nat.le_of_ble_eq_true rfl) rfl dX9_contentOf_12
abbrev rmX9_pairFault : Room := { frames := 3, cells := 0, slots := 0, locals := 64 }
def fX9_pairFault (r0 : Option Nat) (p1 : Int32) (p2 : Int32) (p3 : Int32) (p4 : Int32) : dnM Int32 :=
  dnB (fX12_isGrid p1) fun v1 =>
  if v1 = true then
  (dnB (fX12_isGrid p3) fun v2 =>
  if v2 = true then
  (dnB (dnCv r0 7 (fX9_placeFault r0 p1 p2)) fun v3 =>
  if 0 ≤ v3 then
  (dnB (dnCv r0 7 (fX9_placeFault r0 p3 p4)) fun v4 =>
  dnP v4)
  else
  (dnP v3))
  else
  (dnP (-1)))
  else
  (dnP (-1))
abbrev jX9_pairFault (w : dnWd) (x : dnX) (b : Nat) := dnD w x b (fun _ => True) cX9_pairFault RX9 6 rmX9_pairFault "pairFault" eI
set_option maxHeartbeats 4000000 in
set_option maxRecDepth 100000 in
theorem mX9_pairFault (w : dnWd) (x : dnX) (b : Nat) (r0 : Option Nat) (p1 : Int32) (p2 : Int32) (p3 : Int32) (p4 : Int32) : dnMt w x b yX9_pairFault cX9_pairFault 6 (some .int) rmX9_pairFault eI [dnV b r0, .int p1, .int p2, .int p3, .int p4] (fX9_pairFault r0 p1 p2 p3 p4) := by
  have hlv : lv_args 0 [dnV b r0, .int p1, .int p2, .int p3, .int p4] = [(0, dnV b r0), (1, .int p1), (2, .int p2), (3, .int p3), (4, .int p4)] := by cases r0 <;> rfl
  refine dn_mt (by decide +kernel) roI (by cases r0 <;> exact (Nat.le_of_ble_eq_true rfl)) ?_
  rw [hlv]
  refine dn_top ?_
  show jX9_pairFault w x b 0 0 0 _ [] (dnB _ dnP)
  unfold fX9_pairFault
  refine dn_iload_n (pc := 0) 1 dX9_pairFault_0 rfl ?_
  refine dn_callSN0Z (pc := 1) [.int p1]  kRX9_47 (mX12_isGrid w x b p1) rfl rfl (Nat.le_of_ble_eq_true rfl) ⟨(Nat.le_of_ble_eq_true rfl), (Nat.le_of_ble_eq_true rfl)⟩ ⟨rfl, rfl, (Nat.le_of_ble_eq_true rfl), (Nat.le_of_ble_eq_true rfl)⟩ dX9_pairFault_1 (fun v1 => ?_)
  refine dn_ifz_eq (pc := 4) 14 dX9_pairFault_4 rfl (fun _ => ?_) (fun _ => ?_)
  · refine dn_iload_n (pc := 7) 3 dX9_pairFault_7 rfl ?_
    refine dn_callSN0Z (pc := 8) [.int p3]  kRX9_47 (mX12_isGrid w x b p3) rfl rfl (Nat.le_of_ble_eq_true rfl) ⟨(Nat.le_of_ble_eq_true rfl), (Nat.le_of_ble_eq_true rfl)⟩ ⟨rfl, rfl, (Nat.le_of_ble_eq_true rfl), (Nat.le_of_ble_eq_true rfl)⟩ dX9_pairFault_8 (fun v2 => ?_)
    refine dn_ifz_ne (pc := 11) 16 dX9_pairFault_11 rfl (fun _ => ?_) (fun _ => ?_)
    · refine dn_aload_n (pc := 16) r0 0 dX9_pairFault_16 rfl ?_
      refine dn_iload_n (pc := 17) 1 dX9_pairFault_17 rfl ?_
      refine dn_iload_n (pc := 18) 2 dX9_pairFault_18 rfl ?_
      refine dn_callV0I (pc := 19) [.int p1, .int p2] r0 kRX9_55 (mX9_placeFault w x b r0 p1 p2) rfl rfl (Nat.le_of_ble_eq_true rfl) ⟨(Nat.le_of_ble_eq_true rfl), (Nat.le_of_ble_eq_true rfl)⟩ ⟨rfl, rfl, (Nat.le_of_ble_eq_true rfl), (Nat.le_of_ble_eq_true rfl)⟩ dX9_pairFault_19 (fun v3 => ?_)
      refine dn_istore (pc := 22) dX9_pairFault_22 (Nat.le_of_ble_eq_true rfl) (dnKp_nb 4 rfl rfl rfl (dnKp_of (lv2 := [(0, dnV b r0), (3, .int p3)]) [0, 3] rfl rfl)) ?_
      refine dn_iload (pc := 24) 0 dX9_pairFault_24 rfl ?_
      refine dn_if_ge (pc := 26) 34 dX9_pairFault_26 rfl (fun _ => ?_) (fun _ => ?_)
      · refine dn_aload_n (pc := 34) r0 2 dX9_pairFault_34 rfl ?_
        refine dn_iload_n (pc := 35) 3 dX9_pairFault_35 rfl ?_
        refine dn_iload (pc := 36) 1 dX9_pairFault_36 rfl ?_
        refine dn_callV0I (pc := 38) [.int p3, .int p4] r0 kRX9_55 (mX9_placeFault w x b r0 p3 p4) rfl rfl (Nat.le_of_ble_eq_true rfl) ⟨(Nat.le_of_ble_eq_true rfl), (Nat.le_of_ble_eq_true rfl)⟩ ⟨rfl, rfl, (Nat.le_of_ble_eq_true rfl), (Nat.le_of_ble_eq_true rfl)⟩ dX9_pairFault_38 (fun v4 => ?_)
        exact dn_ret (Nat.le_of_ble_eq_true rfl) (Nat.le_of_ble_eq_true rfl) rfl dX9_pairFault_41
      · refine dn_iload (pc := 29) 0 dX9_pairFault_29 rfl ?_
        refine dn_goto (pc := 31) 41 dX9_pairFault_31 rfl ?_
        exact dn_ret (Nat.le_of_ble_eq_true rfl) (Nat.le_of_ble_eq_true rfl) rfl dX9_pairFault_41
    · refine dn_iconst (pc := 14) (v := -1) dX9_pairFault_14 rfl ?_
      exact dn_ret (Nat.le_of_ble_eq_true rfl) (Nat.le_of_ble_eq_true rfl) rfl dX9_pairFault_15
  · refine dn_iconst (pc := 14) (v := -1) dX9_pairFault_14 rfl ?_
    exact dn_ret (Nat.le_of_ble_eq_true rfl) (Nat.le_of_ble_eq_true rfl) rfl dX9_pairFault_15
abbrev rmX9_exchange : Room := { frames := 4, cells := 0, slots := 0, locals := 89 }
def fX9_exchange (r0 : Option Nat) (p1 : Int32) (p2 : Int32) (p3 : Int32) (p4 : Int32) : dnM Int32 :=
  dnB (dnCv r0 7 (fX9_pairFault r0 p1 p2 p3 p4)) fun v1 =>
  if 0 ≤ v1 then
  (dnB (dnGR r0 7 1) fun v2 =>
  dnB (dnAI v2 100 ((p1 * 6) + p2)) fun v3 =>
  dnB (dnGR r0 7 1) fun v4 =>
  dnB (dnGR r0 7 1) fun v5 =>
  dnB (dnAI v5 100 ((p3 * 6) + p4)) fun v6 =>
  dnB (dnTI v4 100 ((p1 * 6) + p2) v6) fun _ =>
  dnB (dnGR r0 7 1) fun v7 =>
  dnB (dnTI v7 100 ((p3 * 6) + p4) v3) fun _ =>
  dnB (dnCv r0 7 (fX9_contentOf r0 p1 p2)) fun v8 =>
  dnP v8)
  else
  (dnP v1)
abbrev jX9_exchange (w : dnWd) (x : dnX) (b : Nat) := dnD w x b (fun _ => True) cX9_exchange RX9 7 rmX9_exchange "exchange" eI
set_option maxHeartbeats 4000000 in
set_option maxRecDepth 100000 in
theorem mX9_exchange (w : dnWd) (x : dnX) (b : Nat) (r0 : Option Nat) (p1 : Int32) (p2 : Int32) (p3 : Int32) (p4 : Int32) : dnMt w x b yX9_exchange cX9_exchange 7 (some .int) rmX9_exchange eI [dnV b r0, .int p1, .int p2, .int p3, .int p4] (fX9_exchange r0 p1 p2 p3 p4) := by
  have hlv : lv_args 0 [dnV b r0, .int p1, .int p2, .int p3, .int p4] = [(0, dnV b r0), (1, .int p1), (2, .int p2), (3, .int p3), (4, .int p4)] := by cases r0 <;> rfl
  refine dn_mt (by decide +kernel) roI (by cases r0 <;> exact (Nat.le_of_ble_eq_true rfl)) ?_
  rw [hlv]
  refine dn_top ?_
  show jX9_exchange w x b 0 0 0 _ [] (dnB _ dnP)
  unfold fX9_exchange
  refine dn_aload_n (pc := 0) r0 0 dX9_exchange_0 rfl ?_
  refine dn_iload_n (pc := 1) 1 dX9_exchange_1 rfl ?_
  refine dn_iload_n (pc := 2) 2 dX9_exchange_2 rfl ?_
  refine dn_iload_n (pc := 3) 3 dX9_exchange_3 rfl ?_
  refine dn_iload (pc := 4) 4 dX9_exchange_4 rfl ?_
  refine dn_callV0I (pc := 6) [.int p1, .int p2, .int p3, .int p4] r0 kRX9_87 (mX9_pairFault w x b r0 p1 p2 p3 p4) rfl rfl (Nat.le_of_ble_eq_true rfl) ⟨(Nat.le_of_ble_eq_true rfl), (Nat.le_of_ble_eq_true rfl)⟩ ⟨rfl, rfl, (Nat.le_of_ble_eq_true rfl), (Nat.le_of_ble_eq_true rfl)⟩ dX9_exchange_6 (fun v1 => ?_)
  refine dn_istore (pc := 9) dX9_exchange_9 (Nat.le_of_ble_eq_true rfl) (dnKp_nb 4 rfl rfl rfl (dnKp_of (lv2 := [(0, dnV b r0), (1, .int p1), (2, .int p2), (3, .int p3)]) [0, 1, 2, 3] rfl rfl)) ?_
  refine dn_iload (pc := 11) 0 dX9_exchange_11 rfl ?_
  refine dn_if_ge (pc := 13) 19 dX9_exchange_13 rfl (fun _ => ?_) (fun _ => ?_)
  · refine dn_aload_n (pc := 19) r0 2 dX9_exchange_19 rfl ?_
    refine dn_getR (pc := 20) r0 lRX9_15 dX9_exchange_20 (fun v2 => ?_)
    refine dn_iload_n (pc := 23) 3 dX9_exchange_23 rfl ?_
    refine dn_bipush (pc := 24) (v := 6) dX9_exchange_24 rfl ?_
    refine dn_imul (pc := 26) dX9_exchange_26 ?_
    refine dn_iload_n (pc := 27) 4 dX9_exchange_27 rfl ?_
    refine dn_iadd (pc := 28) dX9_exchange_28 ?_
    refine dn_iald (pc := 29) v2 dX9_exchange_29 (fun v3 => ?_)
    refine dn_istore (pc := 30) dX9_exchange_30 (Nat.le_of_ble_eq_true rfl) (dnKp_of (lv2 := [(4, .int p4), (0, dnV b r0), (1, .int p1), (2, .int p2), (3, .int p3)]) [1, 2, 3, 4, 5] rfl rfl) ?_
    refine dn_aload_n (pc := 32) r0 2 dX9_exchange_32 rfl ?_
    refine dn_getR (pc := 33) r0 lRX9_15 dX9_exchange_33 (fun v4 => ?_)
    refine dn_iload_n (pc := 36) 3 dX9_exchange_36 rfl ?_
    refine dn_bipush (pc := 37) (v := 6) dX9_exchange_37 rfl ?_
    refine dn_imul (pc := 39) dX9_exchange_39 ?_
    refine dn_iload_n (pc := 40) 4 dX9_exchange_40 rfl ?_
    refine dn_iadd (pc := 41) dX9_exchange_41 ?_
    refine dn_aload_n (pc := 42) r0 2 dX9_exchange_42 rfl ?_
    refine dn_getR (pc := 43) r0 lRX9_15 dX9_exchange_43 (fun v5 => ?_)
    refine dn_iload_n (pc := 46) 5 dX9_exchange_46 rfl ?_
    refine dn_bipush (pc := 47) (v := 6) dX9_exchange_47 rfl ?_
    refine dn_imul (pc := 49) dX9_exchange_49 ?_
    refine dn_iload (pc := 50) 1 dX9_exchange_50 rfl ?_
    refine dn_iadd (pc := 52) dX9_exchange_52 ?_
    refine dn_iald (pc := 53) v5 dX9_exchange_53 (fun v6 => ?_)
    refine dn_iast (pc := 54) v4 dX9_exchange_54 ?_
    refine dn_aload_n (pc := 55) r0 2 dX9_exchange_55 rfl ?_
    refine dn_getR (pc := 56) r0 lRX9_15 dX9_exchange_56 (fun v7 => ?_)
    refine dn_iload_n (pc := 59) 5 dX9_exchange_59 rfl ?_
    refine dn_bipush (pc := 60) (v := 6) dX9_exchange_60 rfl ?_
    refine dn_imul (pc := 62) dX9_exchange_62 ?_
    refine dn_iload (pc := 63) 1 dX9_exchange_63 rfl ?_
    refine dn_iadd (pc := 65) dX9_exchange_65 ?_
    refine dn_iload (pc := 66) 0 dX9_exchange_66 rfl ?_
    refine dn_iast (pc := 68) v7 dX9_exchange_68 ?_
    refine dn_aload_n (pc := 69) r0 2 dX9_exchange_69 rfl ?_
    refine dn_iload_n (pc := 70) 3 dX9_exchange_70 rfl ?_
    refine dn_iload_n (pc := 71) 4 dX9_exchange_71 rfl ?_
    refine dn_callV0I (pc := 72) [.int p1, .int p2] r0 kRX9_91 (mX9_contentOf w x b r0 p1 p2) rfl rfl (Nat.le_of_ble_eq_true rfl) ⟨(Nat.le_of_ble_eq_true rfl), (Nat.le_of_ble_eq_true rfl)⟩ ⟨rfl, rfl, (Nat.le_of_ble_eq_true rfl), (Nat.le_of_ble_eq_true rfl)⟩ dX9_exchange_72 (fun v8 => ?_)
    exact dn_ret (Nat.le_of_ble_eq_true rfl) (Nat.le_of_ble_eq_true rfl) rfl dX9_exchange_75
  · refine dn_iload (pc := 16) 0 dX9_exchange_16 rfl ?_
    exact dn_ret (Nat.le_of_ble_eq_true rfl) (Nat.le_of_ble_eq_true rfl) rfl dX9_exchange_18
abbrev rmX9_newRow : Room := { frames := 3, cells := 0, slots := 0, locals := 69 }
def fX9_newRow (r0 : Option Nat) (p1 : Int32) (p2 : Int32) (p3 : Int32) (p4 : Int32) : dnM Int32 :=
  dnB (fX12_isGrid p1) fun v1 =>
  if v1 = true then
  (dnB (fX12_isKind p3) fun v2 =>
  if v2 = true then
  (if p4 ≤ 12 then
  (dnB (dnCv r0 7 (fX9_placeFault r0 p1 p2)) fun v3 =>
  if 0 ≤ v3 then
  (if 0 ≤ p4 then
  (dnB (dnCv r0 7 (fX9_freshRow r0 p3 p4)) fun v4 =>
  dnB (dnCv r0 7 (fX9_place r0 p1 p2 v4)) fun _ =>
  dnP p4)
  else
  (dnP (-8)))
  else
  (dnP v3))
  else
  (dnP (-1)))
  else
  (dnP (-1)))
  else
  (dnP (-1))
abbrev jX9_newRow (w : dnWd) (x : dnX) (b : Nat) := dnD w x b (fun _ => True) cX9_newRow RX9 6 rmX9_newRow "newRow" eI
set_option maxHeartbeats 4000000 in
set_option maxRecDepth 100000 in
theorem mX9_newRow (w : dnWd) (x : dnX) (b : Nat) (r0 : Option Nat) (p1 : Int32) (p2 : Int32) (p3 : Int32) (p4 : Int32) : dnMt w x b yX9_newRow cX9_newRow 6 (some .int) rmX9_newRow eI [dnV b r0, .int p1, .int p2, .int p3, .int p4] (fX9_newRow r0 p1 p2 p3 p4) := by
  have hlv : lv_args 0 [dnV b r0, .int p1, .int p2, .int p3, .int p4] = [(0, dnV b r0), (1, .int p1), (2, .int p2), (3, .int p3), (4, .int p4)] := by cases r0 <;> rfl
  refine dn_mt (by decide +kernel) roI (by cases r0 <;> exact (Nat.le_of_ble_eq_true rfl)) ?_
  rw [hlv]
  refine dn_top ?_
  show jX9_newRow w x b 0 0 0 _ [] (dnB _ dnP)
  unfold fX9_newRow
  refine dn_iload_n (pc := 0) 1 dX9_newRow_0 rfl ?_
  refine dn_callSN0Z (pc := 1) [.int p1]  kRX9_47 (mX12_isGrid w x b p1) rfl rfl (Nat.le_of_ble_eq_true rfl) ⟨(Nat.le_of_ble_eq_true rfl), (Nat.le_of_ble_eq_true rfl)⟩ ⟨rfl, rfl, (Nat.le_of_ble_eq_true rfl), (Nat.le_of_ble_eq_true rfl)⟩ dX9_newRow_1 (fun v1 => ?_)
  refine dn_ifz_eq (pc := 4) 21 dX9_newRow_4 rfl (fun _ => ?_) (fun _ => ?_)
  · refine dn_iload_n (pc := 7) 3 dX9_newRow_7 rfl ?_
    refine dn_callSN0Z (pc := 8) [.int p3]  kRX9_84 (mX12_isKind w x b p3) rfl rfl (Nat.le_of_ble_eq_true rfl) ⟨(Nat.le_of_ble_eq_true rfl), (Nat.le_of_ble_eq_true rfl)⟩ ⟨rfl, rfl, (Nat.le_of_ble_eq_true rfl), (Nat.le_of_ble_eq_true rfl)⟩ dX9_newRow_8 (fun v2 => ?_)
    refine dn_ifz_eq (pc := 11) 21 dX9_newRow_11 rfl (fun _ => ?_) (fun _ => ?_)
    · refine dn_iload (pc := 14) 4 dX9_newRow_14 rfl ?_
      refine dn_bipush (pc := 16) (v := 12) dX9_newRow_16 rfl ?_
      refine dn_icmp_le (pc := 18) 23 dX9_newRow_18 rfl (fun _ => ?_) (fun _ => ?_)
      · refine dn_aload_n (pc := 23) r0 0 dX9_newRow_23 rfl ?_
        refine dn_iload_n (pc := 24) 1 dX9_newRow_24 rfl ?_
        refine dn_iload_n (pc := 25) 2 dX9_newRow_25 rfl ?_
        refine dn_callV0I (pc := 26) [.int p1, .int p2] r0 kRX9_55 (mX9_placeFault w x b r0 p1 p2) rfl rfl (Nat.le_of_ble_eq_true rfl) ⟨(Nat.le_of_ble_eq_true rfl), (Nat.le_of_ble_eq_true rfl)⟩ ⟨rfl, rfl, (Nat.le_of_ble_eq_true rfl), (Nat.le_of_ble_eq_true rfl)⟩ dX9_newRow_26 (fun v3 => ?_)
        refine dn_istore (pc := 29) dX9_newRow_29 (Nat.le_of_ble_eq_true rfl) (dnKp_nb 4 rfl rfl rfl (dnKp_of (lv2 := [(0, dnV b r0), (1, .int p1), (2, .int p2), (3, .int p3)]) [0, 1, 2, 3] rfl rfl)) ?_
        refine dn_iload (pc := 31) 0 dX9_newRow_31 rfl ?_
        refine dn_if_ge (pc := 33) 39 dX9_newRow_33 rfl (fun _ => ?_) (fun _ => ?_)
        · refine dn_iload (pc := 39) 1 dX9_newRow_39 rfl ?_
          refine dn_if_ge (pc := 41) 47 dX9_newRow_41 rfl (fun _ => ?_) (fun _ => ?_)
          · refine dn_aload_n (pc := 47) r0 2 dX9_newRow_47 rfl ?_
            refine dn_iload_n (pc := 48) 3 dX9_newRow_48 rfl ?_
            refine dn_iload_n (pc := 49) 4 dX9_newRow_49 rfl ?_
            refine dn_aload_n (pc := 50) r0 2 dX9_newRow_50 rfl ?_
            refine dn_iload_n (pc := 51) 5 dX9_newRow_51 rfl ?_
            refine dn_iload (pc := 52) 1 dX9_newRow_52 rfl ?_
            refine dn_callV0R (pc := 54) [.int p3, .int p4] r0 kRX9_70 (mX9_freshRow w x b r0 p3 p4) rfl rfl (Nat.le_of_ble_eq_true rfl) ⟨(Nat.le_of_ble_eq_true rfl), (Nat.le_of_ble_eq_true rfl)⟩ ⟨rfl, rfl, (Nat.le_of_ble_eq_true rfl), (Nat.le_of_ble_eq_true rfl)⟩ dX9_newRow_54 (fun v4 => ?_)
            refine dn_callV0U (pc := 57) [.int p1, .int p2, dnV b v4] r0 kRX9_74 (mX9_place w x b r0 p1 p2 v4) rfl rfl (Nat.le_of_ble_eq_true rfl) ⟨(Nat.le_of_ble_eq_true rfl), (Nat.le_of_ble_eq_true rfl)⟩ ⟨rfl, rfl, (Nat.le_of_ble_eq_true rfl), (Nat.le_of_ble_eq_true rfl)⟩ dX9_newRow_57 (fun _ => ?_)
            refine dn_iload (pc := 60) 1 dX9_newRow_60 rfl ?_
            exact dn_ret (Nat.le_of_ble_eq_true rfl) (Nat.le_of_ble_eq_true rfl) rfl dX9_newRow_62
          · refine dn_bipush (pc := 44) (v := -8) dX9_newRow_44 rfl ?_
            exact dn_ret (Nat.le_of_ble_eq_true rfl) (Nat.le_of_ble_eq_true rfl) rfl dX9_newRow_46
        · refine dn_iload (pc := 36) 0 dX9_newRow_36 rfl ?_
          exact dn_ret (Nat.le_of_ble_eq_true rfl) (Nat.le_of_ble_eq_true rfl) rfl dX9_newRow_38
      · refine dn_iconst (pc := 21) (v := -1) dX9_newRow_21 rfl ?_
        exact dn_ret (Nat.le_of_ble_eq_true rfl) (Nat.le_of_ble_eq_true rfl) rfl dX9_newRow_22
    · refine dn_iconst (pc := 21) (v := -1) dX9_newRow_21 rfl ?_
      exact dn_ret (Nat.le_of_ble_eq_true rfl) (Nat.le_of_ble_eq_true rfl) rfl dX9_newRow_22
  · refine dn_iconst (pc := 21) (v := -1) dX9_newRow_21 rfl ?_
    exact dn_ret (Nat.le_of_ble_eq_true rfl) (Nat.le_of_ble_eq_true rfl) rfl dX9_newRow_22
abbrev rmX9_removeGrid : Room := { frames := 2, cells := 0, slots := 0, locals := 41 }
def fX9_removeGrid (r0 : Option Nat) (p1 : Int32) : dnM Int32 :=
  dnB (dnCv r0 7 (fX9_gridFault r0 p1)) fun v1 =>
  if 0 ≤ v1 then
  (dnB (dnGR r0 7 0) fun v2 =>
  dnB (dnAI v2 100 p1) fun v3 =>
  dnB (dnCv r0 7 (fX9_startGrid r0 (-1))) fun _ =>
  dnB (dnCv r0 7 (fX9_finishGrid r0 p1)) fun v5 =>
  dnP v3)
  else
  (dnP v1)
abbrev jX9_removeGrid (w : dnWd) (x : dnX) (b : Nat) := dnD w x b (fun _ => True) cX9_removeGrid RX9 4 rmX9_removeGrid "removeGrid" eI
set_option maxHeartbeats 4000000 in
set_option maxRecDepth 100000 in
theorem mX9_removeGrid (w : dnWd) (x : dnX) (b : Nat) (r0 : Option Nat) (p1 : Int32) : dnMt w x b yX9_removeGrid cX9_removeGrid 4 (some .int) rmX9_removeGrid eI [dnV b r0, .int p1] (fX9_removeGrid r0 p1) := by
  have hlv : lv_args 0 [dnV b r0, .int p1] = [(0, dnV b r0), (1, .int p1)] := by cases r0 <;> rfl
  refine dn_mt (by decide +kernel) roI (by cases r0 <;> exact (Nat.le_of_ble_eq_true rfl)) ?_
  rw [hlv]
  refine dn_top ?_
  show jX9_removeGrid w x b 0 0 0 _ [] (dnB _ dnP)
  unfold fX9_removeGrid
  refine dn_aload_n (pc := 0) r0 0 dX9_removeGrid_0 rfl ?_
  refine dn_iload_n (pc := 1) 1 dX9_removeGrid_1 rfl ?_
  refine dn_callV0I (pc := 2) [.int p1] r0 kRX9_51 (mX9_gridFault w x b r0 p1) rfl rfl (Nat.le_of_ble_eq_true rfl) ⟨(Nat.le_of_ble_eq_true rfl), (Nat.le_of_ble_eq_true rfl)⟩ ⟨rfl, rfl, (Nat.le_of_ble_eq_true rfl), (Nat.le_of_ble_eq_true rfl)⟩ dX9_removeGrid_2 (fun v1 => ?_)
  refine dn_istore_n (pc := 5) dX9_removeGrid_5 (Nat.le_of_ble_eq_true rfl) (dnKp_nb 1 rfl rfl rfl (dnKp_of (lv2 := [(0, dnV b r0)]) [0] rfl rfl)) ?_
  refine dn_iload_n (pc := 6) 0 dX9_removeGrid_6 rfl ?_
  refine dn_if_ge (pc := 7) 12 dX9_removeGrid_7 rfl (fun _ => ?_) (fun _ => ?_)
  · refine dn_aload_n (pc := 12) r0 2 dX9_removeGrid_12 rfl ?_
    refine dn_getR (pc := 13) r0 lRX9_9 dX9_removeGrid_13 (fun v2 => ?_)
    refine dn_iload_n (pc := 16) 1 dX9_removeGrid_16 rfl ?_
    refine dn_iald (pc := 17) v2 dX9_removeGrid_17 (fun v3 => ?_)
    refine dn_istore_n (pc := 18) dX9_removeGrid_18 (Nat.le_of_ble_eq_true rfl) (dnKp_of (lv2 := [(1, .int p1), (0, dnV b r0)]) [1, 2] rfl rfl) ?_
    refine dn_aload_n (pc := 19) r0 2 dX9_removeGrid_19 rfl ?_
    refine dn_iconst (pc := 20) (v := -1) dX9_removeGrid_20 rfl ?_
    refine dn_callV0U (pc := 21) [.int (-1)] r0 kRX9_78 (mX9_startGrid w x b r0 (-1)) rfl rfl (Nat.le_of_ble_eq_true rfl) ⟨(Nat.le_of_ble_eq_true rfl), (Nat.le_of_ble_eq_true rfl)⟩ ⟨rfl, rfl, (Nat.le_of_ble_eq_true rfl), (Nat.le_of_ble_eq_true rfl)⟩ dX9_removeGrid_21 (fun _ => ?_)
    refine dn_aload_n (pc := 24) r0 2 dX9_removeGrid_24 rfl ?_
    refine dn_iload_n (pc := 25) 1 dX9_removeGrid_25 rfl ?_
    refine dn_callV0I (pc := 26) [.int p1] r0 kRX9_81 (mX9_finishGrid w x b r0 p1) rfl rfl (Nat.le_of_ble_eq_true rfl) ⟨(Nat.le_of_ble_eq_true rfl), (Nat.le_of_ble_eq_true rfl)⟩ ⟨rfl, rfl, (Nat.le_of_ble_eq_true rfl), (Nat.le_of_ble_eq_true rfl)⟩ dX9_removeGrid_26 (fun v5 => ?_)
    refine dn_pop (pc := 29) dX9_removeGrid_29 rfl ?_
    refine dn_iload_n (pc := 30) 0 dX9_removeGrid_30 rfl ?_
    exact dn_ret (Nat.le_of_ble_eq_true rfl) (Nat.le_of_ble_eq_true rfl) rfl dX9_removeGrid_31
  · refine dn_iload_n (pc := 10) 0 dX9_removeGrid_10 rfl ?_
    exact dn_ret (Nat.le_of_ble_eq_true rfl) (Nat.le_of_ble_eq_true rfl) rfl dX9_removeGrid_11
abbrev rmX9_shareContent : Room := { frames := 4, cells := 0, slots := 0, locals := 89 }
def fX9_shareContent (r0 : Option Nat) (p1 : Int32) (p2 : Int32) (p3 : Int32) (p4 : Int32) : dnM Int32 :=
  dnB (dnCv r0 7 (fX9_pairFault r0 p1 p2 p3 p4)) fun v1 =>
  if 0 ≤ v1 then
  (dnB (dnGR r0 7 1) fun v2 =>
  dnB (dnGR r0 7 1) fun v3 =>
  dnB (dnAI v3 100 ((p1 * 6) + p2)) fun v4 =>
  dnB (dnTI v2 100 ((p3 * 6) + p4) v4) fun _ =>
  dnB (dnCv r0 7 (fX9_contentOf r0 p3 p4)) fun v5 =>
  dnP v5)
  else
  (dnP v1)
abbrev jX9_shareContent (w : dnWd) (x : dnX) (b : Nat) := dnD w x b (fun _ => True) cX9_shareContent RX9 6 rmX9_shareContent "shareContent" eI
set_option maxHeartbeats 4000000 in
set_option maxRecDepth 100000 in
theorem mX9_shareContent (w : dnWd) (x : dnX) (b : Nat) (r0 : Option Nat) (p1 : Int32) (p2 : Int32) (p3 : Int32) (p4 : Int32) : dnMt w x b yX9_shareContent cX9_shareContent 6 (some .int) rmX9_shareContent eI [dnV b r0, .int p1, .int p2, .int p3, .int p4] (fX9_shareContent r0 p1 p2 p3 p4) := by
  have hlv : lv_args 0 [dnV b r0, .int p1, .int p2, .int p3, .int p4] = [(0, dnV b r0), (1, .int p1), (2, .int p2), (3, .int p3), (4, .int p4)] := by cases r0 <;> rfl
  refine dn_mt (by decide +kernel) roI (by cases r0 <;> exact (Nat.le_of_ble_eq_true rfl)) ?_
  rw [hlv]
  refine dn_top ?_
  show jX9_shareContent w x b 0 0 0 _ [] (dnB _ dnP)
  unfold fX9_shareContent
  refine dn_aload_n (pc := 0) r0 0 dX9_shareContent_0 rfl ?_
  refine dn_iload_n (pc := 1) 1 dX9_shareContent_1 rfl ?_
  refine dn_iload_n (pc := 2) 2 dX9_shareContent_2 rfl ?_
  refine dn_iload_n (pc := 3) 3 dX9_shareContent_3 rfl ?_
  refine dn_iload (pc := 4) 4 dX9_shareContent_4 rfl ?_
  refine dn_callV0I (pc := 6) [.int p1, .int p2, .int p3, .int p4] r0 kRX9_87 (mX9_pairFault w x b r0 p1 p2 p3 p4) rfl rfl (Nat.le_of_ble_eq_true rfl) ⟨(Nat.le_of_ble_eq_true rfl), (Nat.le_of_ble_eq_true rfl)⟩ ⟨rfl, rfl, (Nat.le_of_ble_eq_true rfl), (Nat.le_of_ble_eq_true rfl)⟩ dX9_shareContent_6 (fun v1 => ?_)
  refine dn_istore (pc := 9) dX9_shareContent_9 (Nat.le_of_ble_eq_true rfl) (dnKp_nb 4 rfl rfl rfl (dnKp_of (lv2 := [(0, dnV b r0), (1, .int p1), (2, .int p2), (3, .int p3)]) [0, 1, 2, 3] rfl rfl)) ?_
  refine dn_iload (pc := 11) 0 dX9_shareContent_11 rfl ?_
  refine dn_if_ge (pc := 13) 19 dX9_shareContent_13 rfl (fun _ => ?_) (fun _ => ?_)
  · refine dn_aload_n (pc := 19) r0 2 dX9_shareContent_19 rfl ?_
    refine dn_getR (pc := 20) r0 lRX9_15 dX9_shareContent_20 (fun v2 => ?_)
    refine dn_iload_n (pc := 23) 5 dX9_shareContent_23 rfl ?_
    refine dn_bipush (pc := 24) (v := 6) dX9_shareContent_24 rfl ?_
    refine dn_imul (pc := 26) dX9_shareContent_26 ?_
    refine dn_iload (pc := 27) 1 dX9_shareContent_27 rfl ?_
    refine dn_iadd (pc := 29) dX9_shareContent_29 ?_
    refine dn_aload_n (pc := 30) r0 2 dX9_shareContent_30 rfl ?_
    refine dn_getR (pc := 31) r0 lRX9_15 dX9_shareContent_31 (fun v3 => ?_)
    refine dn_iload_n (pc := 34) 3 dX9_shareContent_34 rfl ?_
    refine dn_bipush (pc := 35) (v := 6) dX9_shareContent_35 rfl ?_
    refine dn_imul (pc := 37) dX9_shareContent_37 ?_
    refine dn_iload_n (pc := 38) 4 dX9_shareContent_38 rfl ?_
    refine dn_iadd (pc := 39) dX9_shareContent_39 ?_
    refine dn_iald (pc := 40) v3 dX9_shareContent_40 (fun v4 => ?_)
    refine dn_iast (pc := 41) v2 dX9_shareContent_41 ?_
    refine dn_aload_n (pc := 42) r0 2 dX9_shareContent_42 rfl ?_
    refine dn_iload_n (pc := 43) 5 dX9_shareContent_43 rfl ?_
    refine dn_iload (pc := 44) 1 dX9_shareContent_44 rfl ?_
    refine dn_callV0I (pc := 46) [.int p3, .int p4] r0 kRX9_91 (mX9_contentOf w x b r0 p3 p4) rfl rfl (Nat.le_of_ble_eq_true rfl) ⟨(Nat.le_of_ble_eq_true rfl), (Nat.le_of_ble_eq_true rfl)⟩ ⟨rfl, rfl, (Nat.le_of_ble_eq_true rfl), (Nat.le_of_ble_eq_true rfl)⟩ dX9_shareContent_46 (fun v5 => ?_)
    exact dn_ret (Nat.le_of_ble_eq_true rfl) (Nat.le_of_ble_eq_true rfl) rfl dX9_shareContent_49
  · refine dn_iload (pc := 16) 0 dX9_shareContent_16 rfl ?_
    exact dn_ret (Nat.le_of_ble_eq_true rfl) (Nat.le_of_ble_eq_true rfl) rfl dX9_shareContent_18
abbrev rmX12_cast : Room := { frames := 5, cells := 0, slots := 0, locals := 113 }
def fX12_cast (r0 : Option Nat) (p1 : Int32) (p2 : Int32) (p3 : Int32) : dnM Int32 :=
  dnB (dnGR r0 10 4) fun v1 =>
  dnB (dnCv v1 5 (fX6_castRow v1 p1 p2 p3)) fun v2 =>
  dnB (dnCv r0 10 (fX12_tally r0 v2)) fun v3 =>
  dnP v3
abbrev jX12_cast (w : dnWd) (x : dnX) (b : Nat) := dnD w x b (fun _ => True) cX12_cast RX12 4 rmX12_cast "cast" eI
set_option maxHeartbeats 4000000 in
set_option maxRecDepth 100000 in
theorem mX12_cast (w : dnWd) (x : dnX) (b : Nat) (r0 : Option Nat) (p1 : Int32) (p2 : Int32) (p3 : Int32) : dnMt w x b yX12_cast cX12_cast 4 (some .int) rmX12_cast eI [dnV b r0, .int p1, .int p2, .int p3] (fX12_cast r0 p1 p2 p3) := by
  have hlv : lv_args 0 [dnV b r0, .int p1, .int p2, .int p3] = [(0, dnV b r0), (1, .int p1), (2, .int p2), (3, .int p3)] := by cases r0 <;> rfl
  refine dn_mt (by decide +kernel) roI (by cases r0 <;> exact (Nat.le_of_ble_eq_true rfl)) ?_
  rw [hlv]
  refine dn_top ?_
  show jX12_cast w x b 0 0 0 _ [] (dnB _ dnP)
  unfold fX12_cast
  refine dn_aload_n (pc := 0) r0 0 dX12_cast_0 rfl ?_
  refine dn_aload_n (pc := 1) r0 0 dX12_cast_1 rfl ?_
  refine dn_getR (pc := 2) r0 lRX12_35 dX12_cast_2 (fun v1 => ?_)
  refine dn_iload_n (pc := 5) 1 dX12_cast_5 rfl ?_
  refine dn_iload_n (pc := 6) 2 dX12_cast_6 rfl ?_
  refine dn_iload_n (pc := 7) 3 dX12_cast_7 rfl ?_
  refine dn_callV0I (pc := 8) [.int p1, .int p2, .int p3] v1 kRX12_142 (mX6_castRow w x b v1 p1 p2 p3) rfl rfl (Nat.le_of_ble_eq_true rfl) ⟨(Nat.le_of_ble_eq_true rfl), (Nat.le_of_ble_eq_true rfl)⟩ ⟨rfl, rfl, (Nat.le_of_ble_eq_true rfl), (Nat.le_of_ble_eq_true rfl)⟩ dX12_cast_8 (fun v2 => ?_)
  refine dn_callV0I (pc := 11) [.int v2] r0 kRX12_91 (mX12_tally w x b r0 v2) rfl rfl (Nat.le_of_ble_eq_true rfl) ⟨(Nat.le_of_ble_eq_true rfl), (Nat.le_of_ble_eq_true rfl)⟩ ⟨rfl, rfl, (Nat.le_of_ble_eq_true rfl), (Nat.le_of_ble_eq_true rfl)⟩ dX12_cast_11 (fun v3 => ?_)
  exact dn_ret (Nat.le_of_ble_eq_true rfl) (Nat.le_of_ble_eq_true rfl) rfl dX12_cast_14
abbrev rmX3_empty : Room := { frames := 0, cells := 0, slots := 0, locals := 0 }
def fX3_empty (r0 : Option Nat) : dnM Int32 :=
  dnB (dnGI r0 2 1) fun v1 =>
  dnB (dnPI r0 2 1 0) fun _ =>
  dnP v1
abbrev jX3_empty (w : dnWd) (x : dnX) (b : Nat) := dnD w x b (fun _ => True) cX3_empty RX3 2 rmX3_empty "empty" eI
set_option maxHeartbeats 4000000 in
set_option maxRecDepth 100000 in
theorem mX3_empty (w : dnWd) (x : dnX) (b : Nat) (r0 : Option Nat) : dnMt w x b yX3_empty cX3_empty 2 (some .int) rmX3_empty eI [dnV b r0] (fX3_empty r0) := by
  have hlv : lv_args 0 [dnV b r0] = [(0, dnV b r0)] := by cases r0 <;> rfl
  refine dn_mt (by decide +kernel) roI (by cases r0 <;> exact (Nat.le_of_ble_eq_true rfl)) ?_
  rw [hlv]
  refine dn_top ?_
  show jX3_empty w x b 0 0 0 _ [] (dnB _ dnP)
  unfold fX3_empty
  refine dn_aload_n (pc := 0) r0 0 dX3_empty_0 rfl ?_
  refine dn_getI (pc := 1) r0 lRX3_15 dX3_empty_1 (fun v1 => ?_)
  refine dn_istore_n (pc := 4) dX3_empty_4 (Nat.le_of_ble_eq_true rfl) (dnKp_nb 0 rfl (dn_cat b _) rfl (dnKp_of (lv2 := []) [] rfl rfl)) ?_
  refine dn_aload_n (pc := 5) r0 1 dX3_empty_5 rfl ?_
  refine dn_iconst (pc := 6) (v := 0) dX3_empty_6 rfl ?_
  refine dn_putI (pc := 7) r0 lRX3_15 dX3_empty_7 ?_
  refine dn_iload_n (pc := 10) 0 dX3_empty_10 rfl ?_
  exact dn_ret (Nat.le_of_ble_eq_true rfl) (Nat.le_of_ble_eq_true rfl) rfl dX3_empty_11
abbrev rmX12_clear : Room := { frames := 1, cells := 0, slots := 0, locals := 21 }
def fX12_clear (r0 : Option Nat) : dnM Int32 :=
  dnB (dnGR r0 10 9) fun v1 =>
  dnB (dnCv v1 2 (fX3_empty v1)) fun v2 =>
  dnP v2
abbrev jX12_clear (w : dnWd) (x : dnX) (b : Nat) := dnD w x b (fun _ => True) cX12_clear RX12 1 rmX12_clear "clear" eI
set_option maxHeartbeats 4000000 in
set_option maxRecDepth 100000 in
theorem mX12_clear (w : dnWd) (x : dnX) (b : Nat) (r0 : Option Nat) : dnMt w x b yX12_clear cX12_clear 1 (some .int) rmX12_clear eI [dnV b r0] (fX12_clear r0) := by
  have hlv : lv_args 0 [dnV b r0] = [(0, dnV b r0)] := by cases r0 <;> rfl
  refine dn_mt (by decide +kernel) roI (by cases r0 <;> exact (Nat.le_of_ble_eq_true rfl)) ?_
  rw [hlv]
  refine dn_top ?_
  show jX12_clear w x b 0 0 0 _ [] (dnB _ dnP)
  unfold fX12_clear
  refine dn_aload_n (pc := 0) r0 0 dX12_clear_0 rfl ?_
  refine dn_getR (pc := 1) r0 lRX12_70 dX12_clear_1 (fun v1 => ?_)
  refine dn_callV0I (pc := 4) [] v1 kRX12_209 (mX3_empty w x b v1) rfl rfl (Nat.le_of_ble_eq_true rfl) ⟨(Nat.le_of_ble_eq_true rfl), (Nat.le_of_ble_eq_true rfl)⟩ ⟨rfl, rfl, (Nat.le_of_ble_eq_true rfl), (Nat.le_of_ble_eq_true rfl)⟩ dX12_clear_4 (fun v2 => ?_)
  exact dn_ret (Nat.le_of_ble_eq_true rfl) (Nat.le_of_ble_eq_true rfl) rfl dX12_clear_7
abbrev rmX12_keptImages : Room := { frames := 0, cells := 0, slots := 0, locals := 0 }
def fX12_keptImages_j24 (l0 : Option Nat) (l2 : Int32) (s0 : Int32) (s1 : Bool) : dnM ((Int32 × Int32) ⊕ (Int32)) :=
  dnP (.inl ((s0 + (dnZ s1)), (l2 + 1)))
def fX12_keptImages_b4 (c0 : Option Nat) (s4 : Int32 × Int32) : dnM ((Int32 × Int32) ⊕ (Int32)) :=
  if 2 ≤ s4.2 then
  (dnP (.inr s4.1))
  else
  (dnB (dnGR c0 10 2) fun v1 =>
  dnB (dnAR v1 105 s4.2) fun v2 =>
  v2.elim
  (fX12_keptImages_j24 c0 s4.2 s4.1 false)
  (fun v3 => fX12_keptImages_j24 c0 s4.2 s4.1 true))
def fX12_keptImages (r0 : Option Nat) : dnM Int32 :=
  dnB (dnIt 1000 (fX12_keptImages_b4 r0) (0, 0)) fun q4 =>
  dnP q4
abbrev jX12_keptImages (w : dnWd) (x : dnX) (b : Nat) := dnD w x b (fun _ => True) cX12_keptImages RX12 3 rmX12_keptImages "keptImages" eI
set_option maxHeartbeats 4000000 in
set_option maxRecDepth 100000 in
theorem mX12_keptImages (w : dnWd) (x : dnX) (b : Nat) (r0 : Option Nat) : dnMt w x b yX12_keptImages cX12_keptImages 3 (some .int) rmX12_keptImages eI [dnV b r0] (fX12_keptImages r0) := by
  have hlv : lv_args 0 [dnV b r0] = [(0, dnV b r0)] := by cases r0 <;> rfl
  refine dn_mt (by decide +kernel) roI (by cases r0 <;> exact (Nat.le_of_ble_eq_true rfl)) ?_
  rw [hlv]
  refine dn_top ?_
  show jX12_keptImages w x b 0 0 0 _ [] (dnB _ dnP)
  unfold fX12_keptImages
  refine dn_iconst (pc := 0) (v := 0) dX12_keptImages_0 rfl ?_
  refine dn_istore_n (pc := 1) dX12_keptImages_1 (Nat.le_of_ble_eq_true rfl) (dnKp_nb 0 rfl (dn_cat b _) rfl (dnKp_of (lv2 := []) [] rfl rfl)) ?_
  refine dn_iconst (pc := 2) (v := 0) dX12_keptImages_2 rfl ?_
  refine dn_istore_n (pc := 3) dX12_keptImages_3 (Nat.le_of_ble_eq_true rfl) (dnKp_nb 0 rfl rfl rfl (dnKp_of (lv2 := [(0, dnV b r0)]) [1] rfl rfl)) ?_
  refine dn_assoc ?_
  refine dn_lv [2, 1, 0] (lv2 := (fun s => [(0, dnV b r0), (1, .int s.1), (2, .int s.2)]) (0, 0)) rfl ?_
  refine dn_loopE (pc := 4) (body := fX12_keptImages_b4 r0) 32 (fun s => [(0, dnV b r0), (1, .int s.1), (2, .int s.2)]) (fun q => [(1, .int q)]) (fun s4 K4 E4 hK4 hE4 => ?_) (fun q4 => ?_) 1000 (0, 0)
  · unfold fX12_keptImages_b4
    have hj24 : ∀ (l2 : Int32) (s0 : Int32) (s1 : Bool), jX12_keptImages w x b 24 0 0 [(0, dnV b r0), (2, .int l2)] [.int (dnZ s1), .int s0] (dnB (fX12_keptImages_j24 r0 l2 s0 s1) (dnKo K4 E4)) := by
      intro l2 s0 s1
      unfold fX12_keptImages_j24
      refine dn_iadd (pc := 24) dX12_keptImages_24 ?_
      refine dn_istore_n (pc := 25) dX12_keptImages_25 (Nat.le_of_ble_eq_true rfl) (dnKp_nb 0 rfl (dn_cat b _) rfl (dnKp_of (lv2 := [(2, .int l2)]) [1] rfl rfl)) ?_
      refine dn_iinc (pc := 26) (l2 + 1) 2 dX12_keptImages_26 rfl rfl (Nat.le_of_ble_eq_true rfl) (dnKp_nb 0 rfl rfl rfl (dnKp_of (lv2 := [(0, dnV b r0)]) [1] rfl rfl)) ?_
      refine dn_goto (pc := 29) 4 dX12_keptImages_29 rfl ?_
      refine dn_leaf ?_
      exact dn_lv [2, 1, 0] rfl (hK4 ((s0 + (dnZ s1)), (l2 + 1)))
    refine dn_iload_n (pc := 4) 2 dX12_keptImages_4 rfl ?_
    refine dn_iconst (pc := 5) (v := 2) dX12_keptImages_5 rfl ?_
    refine dn_icmp_ge (pc := 6) 32 dX12_keptImages_6 rfl (fun _ => ?_) (fun _ => ?_)
    · refine dn_leaf ?_
      exact dn_lv [1] rfl (hE4 s4.1)
    · refine dn_iload_n (pc := 9) 1 dX12_keptImages_9 rfl ?_
      refine dn_aload_n (pc := 10) r0 0 dX12_keptImages_10 rfl ?_
      refine dn_getR (pc := 11) r0 lRX12_19 dX12_keptImages_11 (fun v1 => ?_)
      refine dn_iload_n (pc := 14) 2 dX12_keptImages_14 rfl ?_
      refine dn_aaldS (pc := 15) v1 dX12_keptImages_15 (fun v2 => ?_)
      refine dn_ifnonnull (pc := 16) v2 23 dX12_keptImages_16 rfl (fun e_ => ?_) (fun v3 e_ => ?_)
      · subst e_
        refine dn_iconst (pc := 19) (v := 0) dX12_keptImages_19 rfl ?_
        refine dn_goto (pc := 20) 24 dX12_keptImages_20 rfl ?_
        exact dn_lv [0, 2] rfl (hj24 s4.2 s4.1 false)
      · subst e_
        refine dn_iconst (pc := 23) (v := 1) dX12_keptImages_23 rfl ?_
        exact dn_lv [0, 2] rfl (hj24 s4.2 s4.1 true)
  · refine dn_iload_n (pc := 32) 0 dX12_keptImages_32 rfl ?_
    exact dn_ret (Nat.le_of_ble_eq_true rfl) (Nat.le_of_ble_eq_true rfl) rfl dX12_keptImages_33
abbrev rmX9_nullsOf : Room := { frames := 0, cells := 0, slots := 0, locals := 0 }
def fX9_nullsOf_j29 (l0 : Option Nat) (l2 : Int32) (s0 : Int32) (s1 : Bool) : dnM ((Int32 × Int32) ⊕ (Int32)) :=
  dnP (.inl ((s0 + (dnZ s1)), (l2 + 1)))
def fX9_nullsOf_b4 (c0 : Option Nat) (s4 : Int32 × Int32) : dnM ((Int32 × Int32) ⊕ (Int32)) :=
  dnB (dnGI c0 4 2) fun v1 =>
  if v1 ≤ s4.2 then
  (dnP (.inr s4.1))
  else
  (dnB (dnGR c0 4 3) fun v2 =>
  dnB (dnAI v2 100 s4.2) fun v3 =>
  if ¬ v3 = 11 then
  (fX9_nullsOf_j29 c0 s4.2 s4.1 false)
  else
  (fX9_nullsOf_j29 c0 s4.2 s4.1 true))
def fX9_nullsOf (r0 : Option Nat) : dnM Int32 :=
  dnB (dnIt 1000 (fX9_nullsOf_b4 r0) (0, 0)) fun q4 =>
  dnP q4
abbrev jX9_nullsOf (w : dnWd) (x : dnX) (b : Nat) := dnD w x b (fun _ => True) cX9_nullsOf RX9 3 rmX9_nullsOf "nullsOf" eI
set_option maxHeartbeats 4000000 in
set_option maxRecDepth 100000 in
theorem mX9_nullsOf (w : dnWd) (x : dnX) (b : Nat) (r0 : Option Nat) : dnMt w x b yX9_nullsOf cX9_nullsOf 3 (some .int) rmX9_nullsOf eI [dnV b r0] (fX9_nullsOf r0) := by
  have hlv : lv_args 0 [dnV b r0] = [(0, dnV b r0)] := by cases r0 <;> rfl
  refine dn_mt (by decide +kernel) roI (by cases r0 <;> exact (Nat.le_of_ble_eq_true rfl)) ?_
  rw [hlv]
  refine dn_top ?_
  show jX9_nullsOf w x b 0 0 0 _ [] (dnB _ dnP)
  unfold fX9_nullsOf
  refine dn_iconst (pc := 0) (v := 0) dX9_nullsOf_0 rfl ?_
  refine dn_istore_n (pc := 1) dX9_nullsOf_1 (Nat.le_of_ble_eq_true rfl) (dnKp_nb 0 rfl (dn_cat b _) rfl (dnKp_of (lv2 := []) [] rfl rfl)) ?_
  refine dn_iconst (pc := 2) (v := 0) dX9_nullsOf_2 rfl ?_
  refine dn_istore_n (pc := 3) dX9_nullsOf_3 (Nat.le_of_ble_eq_true rfl) (dnKp_nb 0 rfl rfl rfl (dnKp_of (lv2 := [(0, dnV b r0)]) [1] rfl rfl)) ?_
  refine dn_assoc ?_
  refine dn_lv [2, 1, 0] (lv2 := (fun s => [(0, dnV b r0), (1, .int s.1), (2, .int s.2)]) (0, 0)) rfl ?_
  refine dn_loopE (pc := 4) (body := fX9_nullsOf_b4 r0) 37 (fun s => [(0, dnV b r0), (1, .int s.1), (2, .int s.2)]) (fun q => [(1, .int q)]) (fun s4 K4 E4 hK4 hE4 => ?_) (fun q4 => ?_) 1000 (0, 0)
  · unfold fX9_nullsOf_b4
    have hj29 : ∀ (l2 : Int32) (s0 : Int32) (s1 : Bool), jX9_nullsOf w x b 29 0 0 [(0, dnV b r0), (2, .int l2)] [.int (dnZ s1), .int s0] (dnB (fX9_nullsOf_j29 r0 l2 s0 s1) (dnKo K4 E4)) := by
      intro l2 s0 s1
      unfold fX9_nullsOf_j29
      refine dn_iadd (pc := 29) dX9_nullsOf_29 ?_
      refine dn_istore_n (pc := 30) dX9_nullsOf_30 (Nat.le_of_ble_eq_true rfl) (dnKp_nb 0 rfl (dn_cat b _) rfl (dnKp_of (lv2 := [(2, .int l2)]) [1] rfl rfl)) ?_
      refine dn_iinc (pc := 31) (l2 + 1) 2 dX9_nullsOf_31 rfl rfl (Nat.le_of_ble_eq_true rfl) (dnKp_nb 0 rfl rfl rfl (dnKp_of (lv2 := [(0, dnV b r0)]) [1] rfl rfl)) ?_
      refine dn_goto (pc := 34) 4 dX9_nullsOf_34 rfl ?_
      refine dn_leaf ?_
      exact dn_lv [2, 1, 0] rfl (hK4 ((s0 + (dnZ s1)), (l2 + 1)))
    refine dn_iload_n (pc := 4) 2 dX9_nullsOf_4 rfl ?_
    refine dn_aload_n (pc := 5) r0 0 dX9_nullsOf_5 rfl ?_
    refine dn_getI (pc := 6) r0 lRX9_103 dX9_nullsOf_6 (fun v1 => ?_)
    refine dn_icmp_ge (pc := 9) 37 dX9_nullsOf_9 rfl (fun _ => ?_) (fun _ => ?_)
    · refine dn_leaf ?_
      exact dn_lv [1] rfl (hE4 s4.1)
    · refine dn_iload_n (pc := 12) 1 dX9_nullsOf_12 rfl ?_
      refine dn_aload_n (pc := 13) r0 0 dX9_nullsOf_13 rfl ?_
      refine dn_getR (pc := 14) r0 lRX9_129 dX9_nullsOf_14 (fun v2 => ?_)
      refine dn_iload_n (pc := 17) 2 dX9_nullsOf_17 rfl ?_
      refine dn_iald (pc := 18) v2 dX9_nullsOf_18 (fun v3 => ?_)
      refine dn_bipush (pc := 19) (v := 11) dX9_nullsOf_19 rfl ?_
      refine dn_icmp_ne (pc := 21) 28 dX9_nullsOf_21 rfl (fun _ => ?_) (fun _ => ?_)
      · refine dn_iconst (pc := 28) (v := 0) dX9_nullsOf_28 rfl ?_
        exact dn_lv [0, 2] rfl (hj29 s4.2 s4.1 false)
      · refine dn_iconst (pc := 24) (v := 1) dX9_nullsOf_24 rfl ?_
        refine dn_goto (pc := 25) 29 dX9_nullsOf_25 rfl ?_
        exact dn_lv [0, 2] rfl (hj29 s4.2 s4.1 true)
  · refine dn_iload_n (pc := 37) 0 dX9_nullsOf_37 rfl ?_
    exact dn_ret (Nat.le_of_ble_eq_true rfl) (Nat.le_of_ble_eq_true rfl) rfl dX9_nullsOf_38
abbrev rmX9_amountAt : Room := { frames := 2, cells := 0, slots := 0, locals := 45 }
def fX9_amountAt_j36 (l0 : Option Nat) (l1 : Int32) (l2 : Int32) (l3 : Int32) (l4 : Option Nat) (s0 : Bool) : dnM Int32 :=
  if l1 = 1 then
  (dnP 1)
  else
  (if l1 = 2 then
  (l4.elim
  (dnP 0)
  (fun v8 => dnP 1))
  else
  (if l1 = 3 then
  (if s0 = true then
  (dnP 1)
  else
  (dnP 0))
  else
  (if l1 = 4 then
  (if s0 = true then
  (dnB (dnGI l4 4 2) fun v7 =>
  dnP v7)
  else
  (dnP 0))
  else
  (if l1 = 5 then
  (dnB (dnGR l0 7 1) fun v5 =>
  dnB (dnAI v5 100 ((l2 * 6) + l3)) fun v6 =>
  if ¬ v6 = (-14) then
  (dnP 0)
  else
  (dnP 1))
  else
  (if l1 = 6 then
  (l4.elim
  (dnB (dnGR l0 7 1) fun v3 =>
  dnB (dnAI v3 100 ((l2 * 6) + l3)) fun v4 =>
  if v4 = (-14) then
  (dnP 0)
  else
  (dnP 1))
  (fun v2 => dnP 0))
  else
  (if s0 = true then
  (dnB (fX9_nullsOf l4) fun v1 =>
  dnP v1)
  else
  (dnP 0)))))))
def fX9_amountAt_j35 (l0 : Option Nat) (l1 : Int32) (l2 : Int32) (l3 : Int32) (l4 : Option Nat) : dnM Int32 :=
  fX9_amountAt_j36 l0 l1 l2 l3 l4 false
def fX9_amountAt (r0 : Option Nat) (p1 : Int32) (p2 : Int32) (p3 : Int32) : dnM Int32 :=
  dnB (dnCv r0 7 (fX9_rowAt r0 p2 p3)) fun v9 =>
  v9.elim
  (fX9_amountAt_j35 r0 p1 p2 p3 none)
  (fun v10 => dnB (dnGI (some v10) 4 0) fun v11 =>
  dnB (dnCv r0 7 (fX9_firstHolder r0 v11)) fun v12 =>
  if ¬ v12 = ((p2 * 6) + p3) then
  (fX9_amountAt_j35 r0 p1 p2 p3 (some v10))
  else
  (fX9_amountAt_j36 r0 p1 p2 p3 (some v10) true))
abbrev jX9_amountAt (w : dnWd) (x : dnX) (b : Nat) := dnD w x b (fun _ => True) cX9_amountAt RX9 6 rmX9_amountAt "amountAt" eI
set_option maxHeartbeats 4000000 in
set_option maxRecDepth 100000 in
theorem mX9_amountAt (w : dnWd) (x : dnX) (b : Nat) (r0 : Option Nat) (p1 : Int32) (p2 : Int32) (p3 : Int32) : dnMt w x b yX9_amountAt cX9_amountAt 6 (some .int) rmX9_amountAt eI [dnV b r0, .int p1, .int p2, .int p3] (fX9_amountAt r0 p1 p2 p3) := by
  have hlv : lv_args 0 [dnV b r0, .int p1, .int p2, .int p3] = [(0, dnV b r0), (1, .int p1), (2, .int p2), (3, .int p3)] := by cases r0 <;> rfl
  refine dn_mt (by decide +kernel) roI (by cases r0 <;> exact (Nat.le_of_ble_eq_true rfl)) ?_
  rw [hlv]
  refine dn_top ?_
  show jX9_amountAt w x b 0 0 0 _ [] (dnB _ dnP)
  unfold fX9_amountAt
  have hj36 : ∀ (l0 : Option Nat) (l1 : Int32) (l2 : Int32) (l3 : Int32) (l4 : Option Nat) (s0 : Bool), jX9_amountAt w x b 36 0 0 [(0, dnV b l0), (1, .int l1), (2, .int l2), (3, .int l3), (4, dnV b l4)] [.int (dnZ s0)] (dnB (fX9_amountAt_j36 l0 l1 l2 l3 l4 s0) dnP) := by
    intro l0 l1 l2 l3 l4 s0
    unfold fX9_amountAt_j36
    refine dn_istore (pc := 36) dX9_amountAt_36 (Nat.le_of_ble_eq_true rfl) (dnKp_nb 4 rfl (dn_cat b _) rfl (dnKp_of (lv2 := [(0, dnV b l0), (1, .int l1), (2, .int l2), (3, .int l3)]) [0, 1, 2, 3] rfl rfl)) ?_
    refine dn_iload_n (pc := 38) 3 dX9_amountAt_38 rfl ?_
    refine dn_tcase (pc := 39) 1 76 dX9_amountAt_39 (by decide) (by decide) rfl rfl (fun _ => ?_) (fun n39_1 => ?_)
    · refine dn_iconst (pc := 76) (v := 1) dX9_amountAt_76 rfl ?_
      exact dn_ret (Nat.le_of_ble_eq_true rfl) (Nat.le_of_ble_eq_true rfl) rfl dX9_amountAt_77
    · refine dn_tcase (pc := 39) 2 78 dX9_amountAt_39 (by decide) (by decide) rfl rfl (fun _ => ?_) (fun n39_2 => ?_)
      · refine dn_aload (pc := 78) l4 1 dX9_amountAt_78 rfl ?_
        refine dn_ifnull (pc := 80) l4 87 dX9_amountAt_80 rfl (fun e_ => ?_) (fun v8 e_ => ?_)
        · subst e_
          refine dn_iconst (pc := 87) (v := 0) dX9_amountAt_87 rfl ?_
          exact dn_ret (Nat.le_of_ble_eq_true rfl) (Nat.le_of_ble_eq_true rfl) rfl dX9_amountAt_88
        · subst e_
          refine dn_iconst (pc := 83) (v := 1) dX9_amountAt_83 rfl ?_
          refine dn_goto (pc := 84) 88 dX9_amountAt_84 rfl ?_
          exact dn_ret (Nat.le_of_ble_eq_true rfl) (Nat.le_of_ble_eq_true rfl) rfl dX9_amountAt_88
      · refine dn_tcase (pc := 39) 3 89 dX9_amountAt_39 (by decide) (by decide) rfl rfl (fun _ => ?_) (fun n39_3 => ?_)
        · refine dn_iload (pc := 89) 0 dX9_amountAt_89 rfl ?_
          refine dn_ifz_eq (pc := 91) 98 dX9_amountAt_91 rfl (fun _ => ?_) (fun _ => ?_)
          · refine dn_iconst (pc := 94) (v := 1) dX9_amountAt_94 rfl ?_
            refine dn_goto (pc := 95) 99 dX9_amountAt_95 rfl ?_
            exact dn_ret (Nat.le_of_ble_eq_true rfl) (Nat.le_of_ble_eq_true rfl) rfl dX9_amountAt_99
          · refine dn_iconst (pc := 98) (v := 0) dX9_amountAt_98 rfl ?_
            exact dn_ret (Nat.le_of_ble_eq_true rfl) (Nat.le_of_ble_eq_true rfl) rfl dX9_amountAt_99
        · refine dn_tcase (pc := 39) 4 100 dX9_amountAt_39 (by decide) (by decide) rfl rfl (fun _ => ?_) (fun n39_4 => ?_)
          · refine dn_iload (pc := 100) 0 dX9_amountAt_100 rfl ?_
            refine dn_ifz_eq (pc := 102) 113 dX9_amountAt_102 rfl (fun _ => ?_) (fun _ => ?_)
            · refine dn_aload (pc := 105) l4 1 dX9_amountAt_105 rfl ?_
              refine dn_getI (pc := 107) l4 lRX9_103 dX9_amountAt_107 (fun v7 => ?_)
              refine dn_goto (pc := 110) 114 dX9_amountAt_110 rfl ?_
              exact dn_ret (Nat.le_of_ble_eq_true rfl) (Nat.le_of_ble_eq_true rfl) rfl dX9_amountAt_114
            · refine dn_iconst (pc := 113) (v := 0) dX9_amountAt_113 rfl ?_
              exact dn_ret (Nat.le_of_ble_eq_true rfl) (Nat.le_of_ble_eq_true rfl) rfl dX9_amountAt_114
          · refine dn_tcase (pc := 39) 5 115 dX9_amountAt_39 (by decide) (by decide) rfl rfl (fun _ => ?_) (fun n39_5 => ?_)
            · refine dn_aload_n (pc := 115) l0 2 dX9_amountAt_115 rfl ?_
              refine dn_getR (pc := 116) l0 lRX9_15 dX9_amountAt_116 (fun v5 => ?_)
              refine dn_iload_n (pc := 119) 4 dX9_amountAt_119 rfl ?_
              refine dn_bipush (pc := 120) (v := 6) dX9_amountAt_120 rfl ?_
              refine dn_imul (pc := 122) dX9_amountAt_122 ?_
              refine dn_iload_n (pc := 123) 5 dX9_amountAt_123 rfl ?_
              refine dn_iadd (pc := 124) dX9_amountAt_124 ?_
              refine dn_iald (pc := 125) v5 dX9_amountAt_125 (fun v6 => ?_)
              refine dn_bipush (pc := 126) (v := -14) dX9_amountAt_126 rfl ?_
              refine dn_icmp_ne (pc := 128) 135 dX9_amountAt_128 rfl (fun _ => ?_) (fun _ => ?_)
              · refine dn_iconst (pc := 135) (v := 0) dX9_amountAt_135 rfl ?_
                exact dn_ret (Nat.le_of_ble_eq_true rfl) (Nat.le_of_ble_eq_true rfl) rfl dX9_amountAt_136
              · refine dn_iconst (pc := 131) (v := 1) dX9_amountAt_131 rfl ?_
                refine dn_goto (pc := 132) 136 dX9_amountAt_132 rfl ?_
                exact dn_ret (Nat.le_of_ble_eq_true rfl) (Nat.le_of_ble_eq_true rfl) rfl dX9_amountAt_136
            · refine dn_tcase (pc := 39) 6 137 dX9_amountAt_39 (by decide) (by decide) rfl rfl (fun _ => ?_) (fun n39_6 => ?_)
              · refine dn_aload (pc := 137) l4 1 dX9_amountAt_137 rfl ?_
                refine dn_ifnonnull (pc := 139) l4 162 dX9_amountAt_139 rfl (fun e_ => ?_) (fun v2 e_ => ?_)
                · subst e_
                  refine dn_aload_n (pc := 142) l0 2 dX9_amountAt_142 rfl ?_
                  refine dn_getR (pc := 143) l0 lRX9_15 dX9_amountAt_143 (fun v3 => ?_)
                  refine dn_iload_n (pc := 146) 4 dX9_amountAt_146 rfl ?_
                  refine dn_bipush (pc := 147) (v := 6) dX9_amountAt_147 rfl ?_
                  refine dn_imul (pc := 149) dX9_amountAt_149 ?_
                  refine dn_iload_n (pc := 150) 5 dX9_amountAt_150 rfl ?_
                  refine dn_iadd (pc := 151) dX9_amountAt_151 ?_
                  refine dn_iald (pc := 152) v3 dX9_amountAt_152 (fun v4 => ?_)
                  refine dn_bipush (pc := 153) (v := -14) dX9_amountAt_153 rfl ?_
                  refine dn_icmp_eq (pc := 155) 162 dX9_amountAt_155 rfl (fun _ => ?_) (fun _ => ?_)
                  · refine dn_iconst (pc := 162) (v := 0) dX9_amountAt_162 rfl ?_
                    exact dn_ret (Nat.le_of_ble_eq_true rfl) (Nat.le_of_ble_eq_true rfl) rfl dX9_amountAt_163
                  · refine dn_iconst (pc := 158) (v := 1) dX9_amountAt_158 rfl ?_
                    refine dn_goto (pc := 159) 163 dX9_amountAt_159 rfl ?_
                    exact dn_ret (Nat.le_of_ble_eq_true rfl) (Nat.le_of_ble_eq_true rfl) rfl dX9_amountAt_163
                · subst e_
                  refine dn_iconst (pc := 162) (v := 0) dX9_amountAt_162 rfl ?_
                  exact dn_ret (Nat.le_of_ble_eq_true rfl) (Nat.le_of_ble_eq_true rfl) rfl dX9_amountAt_163
              · refine dn_tout (pc := 39) [1, 2, 3, 4, 5, 6] 164 dX9_amountAt_39 (List.forall_mem_cons.mpr ⟨n39_1, (List.forall_mem_cons.mpr ⟨n39_2, (List.forall_mem_cons.mpr ⟨n39_3, (List.forall_mem_cons.mpr ⟨n39_4, (List.forall_mem_cons.mpr ⟨n39_5, (List.forall_mem_cons.mpr ⟨n39_6, (fun _ h => absurd h List.not_mem_nil)⟩)⟩)⟩)⟩)⟩)⟩) (by decide) rfl ?_
                refine dn_iload (pc := 164) 0 dX9_amountAt_164 rfl ?_
                refine dn_ifz_eq (pc := 166) 177 dX9_amountAt_166 rfl (fun _ => ?_) (fun _ => ?_)
                · refine dn_aload (pc := 169) l4 1 dX9_amountAt_169 rfl ?_
                  refine dn_callS0I (pc := 171) [dnV b l4]  kRX9_125 (mX9_nullsOf w x b l4) rfl rfl (Nat.le_of_ble_eq_true rfl) ⟨(Nat.le_of_ble_eq_true rfl), (Nat.le_of_ble_eq_true rfl)⟩ ⟨rfl, rfl, (Nat.le_of_ble_eq_true rfl), (Nat.le_of_ble_eq_true rfl)⟩ dX9_amountAt_171 (fun v1 => ?_)
                  refine dn_goto (pc := 174) 178 dX9_amountAt_174 rfl ?_
                  exact dn_ret (Nat.le_of_ble_eq_true rfl) (Nat.le_of_ble_eq_true rfl) rfl dX9_amountAt_178
                · refine dn_iconst (pc := 177) (v := 0) dX9_amountAt_177 rfl ?_
                  exact dn_ret (Nat.le_of_ble_eq_true rfl) (Nat.le_of_ble_eq_true rfl) rfl dX9_amountAt_178
  have hj35 : ∀ (l0 : Option Nat) (l1 : Int32) (l2 : Int32) (l3 : Int32) (l4 : Option Nat), jX9_amountAt w x b 35 0 0 [(0, dnV b l0), (1, .int l1), (2, .int l2), (3, .int l3), (4, dnV b l4)] [] (dnB (fX9_amountAt_j35 l0 l1 l2 l3 l4) dnP) := by
    intro l0 l1 l2 l3 l4
    unfold fX9_amountAt_j35
    refine dn_iconst (pc := 35) (v := 0) dX9_amountAt_35 rfl ?_
    exact dn_lv [0, 1, 2, 3, 4] rfl (hj36 l0 l1 l2 l3 l4 false)
  refine dn_aload_n (pc := 0) r0 0 dX9_amountAt_0 rfl ?_
  refine dn_iload_n (pc := 1) 2 dX9_amountAt_1 rfl ?_
  refine dn_iload_n (pc := 2) 3 dX9_amountAt_2 rfl ?_
  refine dn_callV0R (pc := 3) [.int p2, .int p3] r0 kRX9_94 (mX9_rowAt w x b r0 p2 p3) rfl rfl (Nat.le_of_ble_eq_true rfl) ⟨(Nat.le_of_ble_eq_true rfl), (Nat.le_of_ble_eq_true rfl)⟩ ⟨rfl, rfl, (Nat.le_of_ble_eq_true rfl), (Nat.le_of_ble_eq_true rfl)⟩ dX9_amountAt_3 (fun v9 => ?_)
  refine dn_astore (pc := 6) v9 dX9_amountAt_6 (Nat.le_of_ble_eq_true rfl) (dnKp_nb 3 rfl rfl rfl (dnKp_of (lv2 := [(0, dnV b r0), (1, .int p1), (2, .int p2)]) [0, 1, 2] rfl rfl)) ?_
  refine dn_aload (pc := 8) v9 0 dX9_amountAt_8 rfl ?_
  refine dn_ifnull (pc := 10) v9 35 dX9_amountAt_10 rfl (fun e_ => ?_) (fun v10 e_ => ?_)
  · subst e_
    exact dn_lv [2, 3, 4, 1, 0] rfl (hj35 r0 p1 p2 p3 none)
  · subst e_
    refine dn_aload_n (pc := 13) r0 2 dX9_amountAt_13 rfl ?_
    refine dn_aload (pc := 14) (some v10) 0 dX9_amountAt_14 rfl ?_
    refine dn_getI (pc := 16) (some v10) lRX9_66 dX9_amountAt_16 (fun v11 => ?_)
    refine dn_callV0I (pc := 19) [.int v11] r0 kRX9_59 (mX9_firstHolder w x b r0 v11) rfl rfl (Nat.le_of_ble_eq_true rfl) ⟨(Nat.le_of_ble_eq_true rfl), (Nat.le_of_ble_eq_true rfl)⟩ ⟨rfl, rfl, (Nat.le_of_ble_eq_true rfl), (Nat.le_of_ble_eq_true rfl)⟩ dX9_amountAt_19 (fun v12 => ?_)
    refine dn_iload_n (pc := 22) 4 dX9_amountAt_22 rfl ?_
    refine dn_bipush (pc := 23) (v := 6) dX9_amountAt_23 rfl ?_
    refine dn_imul (pc := 25) dX9_amountAt_25 ?_
    refine dn_iload_n (pc := 26) 1 dX9_amountAt_26 rfl ?_
    refine dn_iadd (pc := 27) dX9_amountAt_27 ?_
    refine dn_icmp_ne (pc := 28) 35 dX9_amountAt_28 rfl (fun _ => ?_) (fun _ => ?_)
    · exact dn_lv [2, 3, 4, 1, 0] rfl (hj35 r0 p1 p2 p3 (some v10))
    · refine dn_iconst (pc := 31) (v := 1) dX9_amountAt_31 rfl ?_
      refine dn_goto (pc := 32) 36 dX9_amountAt_32 rfl ?_
      exact dn_lv [2, 3, 4, 1, 0] rfl (hj36 r0 p1 p2 p3 (some v10) true)
abbrev rmX9_amountOf : Room := { frames := 3, cells := 0, slots := 0, locals := 70 }
def fX9_amountOf_b21 (c0 : Option Nat) (c1 : Int32) (c3 : Int32) (s21 : Int32 × Int32) : dnM ((Int32 × Int32) ⊕ (Int32)) :=
  dnB (dnGR c0 7 0) fun v1 =>
  dnB (dnAI v1 100 c3) fun v2 =>
  if v2 ≤ s21.2 then
  (dnP (.inr s21.1))
  else
  (dnB (dnCv c0 7 (fX9_amountAt c0 c1 c3 s21.2)) fun v3 =>
  dnP (.inl ((s21.1 + v3), (s21.2 + 1))))
def fX9_amountOf_b13 (c0 : Option Nat) (c1 : Int32) (s13 : Int32 × Int32) : dnM ((Int32 × Int32) ⊕ (Int32)) :=
  if 4 ≤ s13.2 then
  (dnP (.inr s13.1))
  else
  (dnB (dnIt 1000 (fX9_amountOf_b21 c0 c1 s13.2) (s13.1, 0)) fun q21 =>
  dnP (.inl (q21, (s13.2 + 1))))
def fX9_amountOf (r0 : Option Nat) (p1 : Int32) : dnM Int32 :=
  if ¬ p1 = 0 then
  (dnB (dnIt 1000 (fX9_amountOf_b13 r0 p1) (0, 0)) fun q13 =>
  dnP q13)
  else
  (dnB (dnCv r0 7 (fX9_presentGrids r0)) fun v4 =>
  dnP v4)
abbrev jX9_amountOf (w : dnWd) (x : dnX) (b : Nat) := dnD w x b (fun _ => True) cX9_amountOf RX9 5 rmX9_amountOf "amountOf" eI
set_option maxHeartbeats 4000000 in
set_option maxRecDepth 100000 in
theorem mX9_amountOf (w : dnWd) (x : dnX) (b : Nat) (r0 : Option Nat) (p1 : Int32) : dnMt w x b yX9_amountOf cX9_amountOf 5 (some .int) rmX9_amountOf eI [dnV b r0, .int p1] (fX9_amountOf r0 p1) := by
  have hlv : lv_args 0 [dnV b r0, .int p1] = [(0, dnV b r0), (1, .int p1)] := by cases r0 <;> rfl
  refine dn_mt (by decide +kernel) roI (by cases r0 <;> exact (Nat.le_of_ble_eq_true rfl)) ?_
  rw [hlv]
  refine dn_top ?_
  show jX9_amountOf w x b 0 0 0 _ [] (dnB _ dnP)
  unfold fX9_amountOf
  refine dn_iload_n (pc := 0) 1 dX9_amountOf_0 rfl ?_
  refine dn_if_ne (pc := 1) 9 dX9_amountOf_1 rfl (fun _ => ?_) (fun _ => ?_)
  · refine dn_iconst (pc := 9) (v := 0) dX9_amountOf_9 rfl ?_
    refine dn_istore_n (pc := 10) dX9_amountOf_10 (Nat.le_of_ble_eq_true rfl) (dnKp_nb 1 rfl rfl rfl (dnKp_of (lv2 := [(0, dnV b r0)]) [0] rfl rfl)) ?_
    refine dn_iconst (pc := 11) (v := 0) dX9_amountOf_11 rfl ?_
    refine dn_istore_n (pc := 12) dX9_amountOf_12 (Nat.le_of_ble_eq_true rfl) (dnKp_nb 0 rfl rfl rfl (dnKp_of (lv2 := [(1, .int p1), (0, dnV b r0)]) [1, 2] rfl rfl)) ?_
    refine dn_assoc ?_
    refine dn_lv [3, 2, 1, 0] (lv2 := (fun s => [(0, dnV b r0), (1, .int p1), (2, .int s.1), (3, .int s.2)]) (0, 0)) rfl ?_
    refine dn_loopE (pc := 13) (body := fX9_amountOf_b13 r0 p1) 55 (fun s => [(0, dnV b r0), (1, .int p1), (2, .int s.1), (3, .int s.2)]) (fun q => [(2, .int q)]) (fun s13 K13 E13 hK13 hE13 => ?_) (fun q13 => ?_) 1000 (0, 0)
    · unfold fX9_amountOf_b13
      refine dn_iload_n (pc := 13) 3 dX9_amountOf_13 rfl ?_
      refine dn_iconst (pc := 14) (v := 4) dX9_amountOf_14 rfl ?_
      refine dn_icmp_ge (pc := 15) 55 dX9_amountOf_15 rfl (fun _ => ?_) (fun _ => ?_)
      · refine dn_leaf ?_
        exact dn_lv [2] rfl (hE13 s13.1)
      · refine dn_iconst (pc := 18) (v := 0) dX9_amountOf_18 rfl ?_
        refine dn_istore (pc := 19) dX9_amountOf_19 (Nat.le_of_ble_eq_true rfl) (dnKp_nb 3 rfl rfl rfl (dnKp_of (lv2 := [(0, dnV b r0), (1, .int p1), (2, .int s13.1)]) [0, 1, 2] rfl rfl)) ?_
        refine dn_assoc ?_
        refine dn_lv [2, 3, 4, 1, 0] (lv2 := (fun s => [(0, dnV b r0), (1, .int p1), (2, .int s.1), (3, .int s13.2), (4, .int s.2)]) (s13.1, 0)) rfl ?_
        refine dn_loopE (pc := 21) (body := fX9_amountOf_b21 r0 p1 s13.2) 49 (fun s => [(0, dnV b r0), (1, .int p1), (2, .int s.1), (3, .int s13.2), (4, .int s.2)]) (fun q => [(0, dnV b r0), (1, .int p1), (2, .int q), (3, .int s13.2)]) (fun s21 K21 E21 hK21 hE21 => ?_) (fun q21 => ?_) 1000 (s13.1, 0)
        · unfold fX9_amountOf_b21
          refine dn_iload (pc := 21) 4 dX9_amountOf_21 rfl ?_
          refine dn_aload_n (pc := 23) r0 0 dX9_amountOf_23 rfl ?_
          refine dn_getR (pc := 24) r0 lRX9_9 dX9_amountOf_24 (fun v1 => ?_)
          refine dn_iload_n (pc := 27) 3 dX9_amountOf_27 rfl ?_
          refine dn_iald (pc := 28) v1 dX9_amountOf_28 (fun v2 => ?_)
          refine dn_icmp_ge (pc := 29) 49 dX9_amountOf_29 rfl (fun _ => ?_) (fun _ => ?_)
          · refine dn_leaf ?_
            exact dn_lv [0, 1, 2, 3] rfl (hE21 s21.1)
          · refine dn_iload_n (pc := 32) 2 dX9_amountOf_32 rfl ?_
            refine dn_aload_n (pc := 33) r0 0 dX9_amountOf_33 rfl ?_
            refine dn_iload_n (pc := 34) 1 dX9_amountOf_34 rfl ?_
            refine dn_iload_n (pc := 35) 3 dX9_amountOf_35 rfl ?_
            refine dn_iload (pc := 36) 4 dX9_amountOf_36 rfl ?_
            refine dn_callV0I (pc := 38) [.int p1, .int s13.2, .int s21.2] r0 kRX9_121 (mX9_amountAt w x b r0 p1 s13.2 s21.2) rfl rfl (Nat.le_of_ble_eq_true rfl) ⟨(Nat.le_of_ble_eq_true rfl), (Nat.le_of_ble_eq_true rfl)⟩ ⟨rfl, rfl, (Nat.le_of_ble_eq_true rfl), (Nat.le_of_ble_eq_true rfl)⟩ dX9_amountOf_38 (fun v3 => ?_)
            refine dn_iadd (pc := 41) dX9_amountOf_41 ?_
            refine dn_istore_n (pc := 42) dX9_amountOf_42 (Nat.le_of_ble_eq_true rfl) (dnKp_nb 1 rfl rfl rfl (dnKp_of (lv2 := [(0, dnV b r0), (3, .int s13.2), (4, .int s21.2)]) [0, 3, 4] rfl rfl)) ?_
            refine dn_iinc (pc := 43) (s21.2 + 1) 4 dX9_amountOf_43 rfl rfl (Nat.le_of_ble_eq_true rfl) (dnKp_nb 3 rfl rfl rfl (dnKp_of (lv2 := [(2, .int (s21.1 + v3)), (1, .int p1), (0, dnV b r0)]) [0, 1, 2] rfl rfl)) ?_
            refine dn_goto (pc := 46) 21 dX9_amountOf_46 rfl ?_
            refine dn_leaf ?_
            exact dn_lv [4, 3, 2, 1, 0] rfl (hK21 ((s21.1 + v3), (s21.2 + 1)))
        · refine dn_iinc (pc := 49) (s13.2 + 1) 3 dX9_amountOf_49 rfl rfl (Nat.le_of_ble_eq_true rfl) (dnKp_nb 2 rfl rfl rfl (dnKp_of (lv2 := [(0, dnV b r0), (1, .int p1)]) [0, 1] rfl rfl)) ?_
          refine dn_goto (pc := 52) 13 dX9_amountOf_52 rfl ?_
          refine dn_leaf ?_
          exact dn_lv [2, 3, 1, 0] rfl (hK13 (q21, (s13.2 + 1)))
    · refine dn_iload_n (pc := 55) 0 dX9_amountOf_55 rfl ?_
      exact dn_ret (Nat.le_of_ble_eq_true rfl) (Nat.le_of_ble_eq_true rfl) rfl dX9_amountOf_56
  · refine dn_aload_n (pc := 4) r0 0 dX9_amountOf_4 rfl ?_
    refine dn_callV0I (pc := 5) [] r0 kRX9_117 (mX9_presentGrids w x b r0) rfl rfl (Nat.le_of_ble_eq_true rfl) ⟨(Nat.le_of_ble_eq_true rfl), (Nat.le_of_ble_eq_true rfl)⟩ ⟨rfl, rfl, (Nat.le_of_ble_eq_true rfl), (Nat.le_of_ble_eq_true rfl)⟩ dX9_amountOf_5 (fun v4 => ?_)
    exact dn_ret (Nat.le_of_ble_eq_true rfl) (Nat.le_of_ble_eq_true rfl) rfl dX9_amountOf_8
abbrev rmX12_count : Room := { frames := 4, cells := 0, slots := 0, locals := 94 }
def fX12_count_j51 : dnM Int32 :=
  dnP (-1)
def fX12_count (r0 : Option Nat) (p1 : Int32) : dnM Int32 :=
  if p1 = 8 then
  (dnB (dnGR r0 10 9) fun v4 =>
  dnB (dnGI v4 2 1) fun v5 =>
  dnP v5)
  else
  (if p1 = 9 then
  (dnB (dnCv r0 10 (fX12_keptImages r0)) fun v3 =>
  dnP v3)
  else
  (if p1 < 0 then
  (fX12_count_j51)
  else
  (if p1 ≤ 9 then
  (dnB (dnGR r0 10 0) fun v1 =>
  dnB (dnCv v1 7 (fX9_amountOf v1 p1)) fun v2 =>
  dnP v2)
  else
  (fX12_count_j51))))
abbrev jX12_count (w : dnWd) (x : dnX) (b : Nat) := dnD w x b (fun _ => True) cX12_count RX12 2 rmX12_count "count" eI
set_option maxHeartbeats 4000000 in
set_option maxRecDepth 100000 in
theorem mX12_count (w : dnWd) (x : dnX) (b : Nat) (r0 : Option Nat) (p1 : Int32) : dnMt w x b yX12_count cX12_count 2 (some .int) rmX12_count eI [dnV b r0, .int p1] (fX12_count r0 p1) := by
  have hlv : lv_args 0 [dnV b r0, .int p1] = [(0, dnV b r0), (1, .int p1)] := by cases r0 <;> rfl
  refine dn_mt (by decide +kernel) roI (by cases r0 <;> exact (Nat.le_of_ble_eq_true rfl)) ?_
  rw [hlv]
  refine dn_top ?_
  show jX12_count w x b 0 0 0 _ [] (dnB _ dnP)
  unfold fX12_count
  have hj51 : jX12_count w x b 51 0 0 [] [] (dnB (fX12_count_j51) dnP) := by
    unfold fX12_count_j51
    refine dn_iconst (pc := 51) (v := -1) dX12_count_51 rfl ?_
    refine dn_goto (pc := 52) 63 dX12_count_52 rfl ?_
    exact dn_ret (Nat.le_of_ble_eq_true rfl) (Nat.le_of_ble_eq_true rfl) rfl dX12_count_63
  refine dn_iload_n (pc := 0) 1 dX12_count_0 rfl ?_
  refine dn_lcase (pc := 1) 8 28 dX12_count_1 (by decide) rfl rfl (fun _ => ?_) (fun n1_8 => ?_)
  · refine dn_aload_n (pc := 28) r0 0 dX12_count_28 rfl ?_
    refine dn_getR (pc := 29) r0 lRX12_70 dX12_count_29 (fun v4 => ?_)
    refine dn_getI (pc := 32) v4 lRX12_266 dX12_count_32 (fun v5 => ?_)
    exact dn_ret (Nat.le_of_ble_eq_true rfl) (Nat.le_of_ble_eq_true rfl) rfl dX12_count_35
  · refine dn_lcase (pc := 1) 9 36 dX12_count_1 (by decide) rfl rfl (fun _ => ?_) (fun n1_9 => ?_)
    · refine dn_aload_n (pc := 36) r0 0 dX12_count_36 rfl ?_
      refine dn_callV0I (pc := 37) [] r0 kRX12_269 (mX12_keptImages w x b r0) rfl rfl (Nat.le_of_ble_eq_true rfl) ⟨(Nat.le_of_ble_eq_true rfl), (Nat.le_of_ble_eq_true rfl)⟩ ⟨rfl, rfl, (Nat.le_of_ble_eq_true rfl), (Nat.le_of_ble_eq_true rfl)⟩ dX12_count_37 (fun v3 => ?_)
      exact dn_ret (Nat.le_of_ble_eq_true rfl) (Nat.le_of_ble_eq_true rfl) rfl dX12_count_40
    · refine dn_lout (pc := 1) 41 dX12_count_1 (by decide) (by simp [Op.lookupswitch.offset, dn_ne32 n1_8 (k := 8) rfl, dn_ne32 n1_9 (k := 9) rfl]) rfl ?_
      refine dn_iload_n (pc := 41) 1 dX12_count_41 rfl ?_
      refine dn_if_lt (pc := 42) 51 dX12_count_42 rfl (fun _ => ?_) (fun _ => ?_)
      · exact dn_lv [] rfl (hj51)
      · refine dn_iload_n (pc := 45) 1 dX12_count_45 rfl ?_
        refine dn_bipush (pc := 46) (v := 9) dX12_count_46 rfl ?_
        refine dn_icmp_le (pc := 48) 55 dX12_count_48 rfl (fun _ => ?_) (fun _ => ?_)
        · refine dn_aload_n (pc := 55) r0 0 dX12_count_55 rfl ?_
          refine dn_getR (pc := 56) r0 lRX12_10 dX12_count_56 (fun v1 => ?_)
          refine dn_iload_n (pc := 59) 1 dX12_count_59 rfl ?_
          refine dn_callV0I (pc := 60) [.int p1] v1 kRX12_272 (mX9_amountOf w x b v1 p1) rfl rfl (Nat.le_of_ble_eq_true rfl) ⟨(Nat.le_of_ble_eq_true rfl), (Nat.le_of_ble_eq_true rfl)⟩ ⟨rfl, rfl, (Nat.le_of_ble_eq_true rfl), (Nat.le_of_ble_eq_true rfl)⟩ dX12_count_60 (fun v2 => ?_)
          exact dn_ret (Nat.le_of_ble_eq_true rfl) (Nat.le_of_ble_eq_true rfl) rfl dX12_count_63
        · exact dn_lv [] rfl (hj51)
abbrev rmX12_cut : Room := { frames := 5, cells := 0, slots := 0, locals := 117 }
def fX12_cut (r0 : Option Nat) (p1 : Int32) (p2 : Int32) (p3 : Int32) (p4 : Int32) (p5 : Int32) : dnM Int32 :=
  dnB (dnGR r0 10 4) fun v1 =>
  dnB (dnCv v1 5 (fX6_cutOut v1 p1 p2 p3 p4 p5)) fun v2 =>
  dnB (dnCv r0 10 (fX12_tally r0 v2)) fun v3 =>
  dnP v3
abbrev jX12_cut (w : dnWd) (x : dnX) (b : Nat) := dnD w x b (fun _ => True) cX12_cut RX12 6 rmX12_cut "cut" eI
set_option maxHeartbeats 4000000 in
set_option maxRecDepth 100000 in
theorem mX12_cut (w : dnWd) (x : dnX) (b : Nat) (r0 : Option Nat) (p1 : Int32) (p2 : Int32) (p3 : Int32) (p4 : Int32) (p5 : Int32) : dnMt w x b yX12_cut cX12_cut 6 (some .int) rmX12_cut eI [dnV b r0, .int p1, .int p2, .int p3, .int p4, .int p5] (fX12_cut r0 p1 p2 p3 p4 p5) := by
  have hlv : lv_args 0 [dnV b r0, .int p1, .int p2, .int p3, .int p4, .int p5] = [(0, dnV b r0), (1, .int p1), (2, .int p2), (3, .int p3), (4, .int p4), (5, .int p5)] := by cases r0 <;> rfl
  refine dn_mt (by decide +kernel) roI (by cases r0 <;> exact (Nat.le_of_ble_eq_true rfl)) ?_
  rw [hlv]
  refine dn_top ?_
  show jX12_cut w x b 0 0 0 _ [] (dnB _ dnP)
  unfold fX12_cut
  refine dn_aload_n (pc := 0) r0 0 dX12_cut_0 rfl ?_
  refine dn_aload_n (pc := 1) r0 0 dX12_cut_1 rfl ?_
  refine dn_getR (pc := 2) r0 lRX12_35 dX12_cut_2 (fun v1 => ?_)
  refine dn_iload_n (pc := 5) 1 dX12_cut_5 rfl ?_
  refine dn_iload_n (pc := 6) 2 dX12_cut_6 rfl ?_
  refine dn_iload_n (pc := 7) 3 dX12_cut_7 rfl ?_
  refine dn_iload (pc := 8) 4 dX12_cut_8 rfl ?_
  refine dn_iload (pc := 10) 5 dX12_cut_10 rfl ?_
  refine dn_callV0I (pc := 12) [.int p1, .int p2, .int p3, .int p4, .int p5] v1 kRX12_138 (mX6_cutOut w x b v1 p1 p2 p3 p4 p5) rfl rfl (Nat.le_of_ble_eq_true rfl) ⟨(Nat.le_of_ble_eq_true rfl), (Nat.le_of_ble_eq_true rfl)⟩ ⟨rfl, rfl, (Nat.le_of_ble_eq_true rfl), (Nat.le_of_ble_eq_true rfl)⟩ dX12_cut_12 (fun v2 => ?_)
  refine dn_callV0I (pc := 15) [.int v2] r0 kRX12_91 (mX12_tally w x b r0 v2) rfl rfl (Nat.le_of_ble_eq_true rfl) ⟨(Nat.le_of_ble_eq_true rfl), (Nat.le_of_ble_eq_true rfl)⟩ ⟨rfl, rfl, (Nat.le_of_ble_eq_true rfl), (Nat.le_of_ble_eq_true rfl)⟩ dX12_cut_15 (fun v3 => ?_)
  exact dn_ret (Nat.le_of_ble_eq_true rfl) (Nat.le_of_ble_eq_true rfl) rfl dX12_cut_18
abbrev rmX12_deal : Room := { frames := 5, cells := 0, slots := 0, locals := 121 }
def fX12_deal (r0 : Option Nat) (p1 : Int32) (p2 : Int32) (p3 : Int32) (p4 : Int32) : dnM Int32 :=
  dnB (dnGR r0 10 5) fun v1 =>
  dnB (dnCv v1 9 (fX11_dealOut v1 p1 p2 p3 p4)) fun v2 =>
  dnB (dnCv r0 10 (fX12_tally r0 v2)) fun v3 =>
  dnP v3
abbrev jX12_deal (w : dnWd) (x : dnX) (b : Nat) := dnD w x b (fun _ => True) cX12_deal RX12 5 rmX12_deal "deal" eI
set_option maxHeartbeats 4000000 in
set_option maxRecDepth 100000 in
theorem mX12_deal (w : dnWd) (x : dnX) (b : Nat) (r0 : Option Nat) (p1 : Int32) (p2 : Int32) (p3 : Int32) (p4 : Int32) : dnMt w x b yX12_deal cX12_deal 5 (some .int) rmX12_deal eI [dnV b r0, .int p1, .int p2, .int p3, .int p4] (fX12_deal r0 p1 p2 p3 p4) := by
  have hlv : lv_args 0 [dnV b r0, .int p1, .int p2, .int p3, .int p4] = [(0, dnV b r0), (1, .int p1), (2, .int p2), (3, .int p3), (4, .int p4)] := by cases r0 <;> rfl
  refine dn_mt (by decide +kernel) roI (by cases r0 <;> exact (Nat.le_of_ble_eq_true rfl)) ?_
  rw [hlv]
  refine dn_top ?_
  show jX12_deal w x b 0 0 0 _ [] (dnB _ dnP)
  unfold fX12_deal
  refine dn_aload_n (pc := 0) r0 0 dX12_deal_0 rfl ?_
  refine dn_aload_n (pc := 1) r0 0 dX12_deal_1 rfl ?_
  refine dn_getR (pc := 2) r0 lRX12_42 dX12_deal_2 (fun v1 => ?_)
  refine dn_iload_n (pc := 5) 1 dX12_deal_5 rfl ?_
  refine dn_iload_n (pc := 6) 2 dX12_deal_6 rfl ?_
  refine dn_iload_n (pc := 7) 3 dX12_deal_7 rfl ?_
  refine dn_iload (pc := 8) 4 dX12_deal_8 rfl ?_
  refine dn_callV0I (pc := 10) [.int p1, .int p2, .int p3, .int p4] v1 kRX12_173 (mX11_dealOut w x b v1 p1 p2 p3 p4) rfl rfl (Nat.le_of_ble_eq_true rfl) ⟨(Nat.le_of_ble_eq_true rfl), (Nat.le_of_ble_eq_true rfl)⟩ ⟨rfl, rfl, (Nat.le_of_ble_eq_true rfl), (Nat.le_of_ble_eq_true rfl)⟩ dX12_deal_10 (fun v2 => ?_)
  refine dn_callV0I (pc := 13) [.int v2] r0 kRX12_91 (mX12_tally w x b r0 v2) rfl rfl (Nat.le_of_ble_eq_true rfl) ⟨(Nat.le_of_ble_eq_true rfl), (Nat.le_of_ble_eq_true rfl)⟩ ⟨rfl, rfl, (Nat.le_of_ble_eq_true rfl), (Nat.le_of_ble_eq_true rfl)⟩ dX12_deal_13 (fun v3 => ?_)
  exact dn_ret (Nat.le_of_ble_eq_true rfl) (Nat.le_of_ble_eq_true rfl) rfl dX12_deal_16
abbrev rmX5_codeAt : Room := { frames := 1, cells := 0, slots := 0, locals := 21 }
def fX5_codeAt (r0 : Option Nat) (p1 : Int32) : dnM Int64 :=
  dnB (dnGR r0 4 3) fun v1 =>
  dnB (dnAI v1 100 p1) fun v2 =>
  dnB (fX12_isReal v2) fun v3 =>
  if v3 = true then
  (dnB (dnGR r0 4 5) fun v6 =>
  dnB (dnAD v6 103 p1) fun v7 =>
  dnB (fX12_codeOfReal v7) fun v8 =>
  dnP v8)
  else
  (dnB (dnGR r0 4 4) fun v4 =>
  dnB (dnAL v4 102 p1) fun v5 =>
  dnP v5)
abbrev jX5_codeAt (w : dnWd) (x : dnX) (b : Nat) := dnD w x b (fun _ => True) cX5_codeAt RX5 2 rmX5_codeAt "codeAt" eL
set_option maxHeartbeats 4000000 in
set_option maxRecDepth 100000 in
theorem mX5_codeAt (w : dnWd) (x : dnX) (b : Nat) (r0 : Option Nat) (p1 : Int32) : dnMt w x b yX5_codeAt cX5_codeAt 2 (some .long) rmX5_codeAt eL [dnV b r0, .int p1] (fX5_codeAt r0 p1) := by
  have hlv : lv_args 0 [dnV b r0, .int p1] = [(0, dnV b r0), (1, .int p1)] := by cases r0 <;> rfl
  refine dn_mt (by decide +kernel) roL (by cases r0 <;> exact (Nat.le_of_ble_eq_true rfl)) ?_
  rw [hlv]
  refine dn_top ?_
  show jX5_codeAt w x b 0 0 0 _ [] (dnB _ dnP)
  unfold fX5_codeAt
  refine dn_aload_n (pc := 0) r0 0 dX5_codeAt_0 rfl ?_
  refine dn_getR (pc := 1) r0 lRX5_18 dX5_codeAt_1 (fun v1 => ?_)
  refine dn_iload_n (pc := 4) 1 dX5_codeAt_4 rfl ?_
  refine dn_iald (pc := 5) v1 dX5_codeAt_5 (fun v2 => ?_)
  refine dn_callSN0Z (pc := 6) [.int v2]  kRX5_72 (mX12_isReal w x b v2) rfl rfl (Nat.le_of_ble_eq_true rfl) ⟨(Nat.le_of_ble_eq_true rfl), (Nat.le_of_ble_eq_true rfl)⟩ ⟨rfl, rfl, (Nat.le_of_ble_eq_true rfl), (Nat.le_of_ble_eq_true rfl)⟩ dX5_codeAt_6 (fun v3 => ?_)
  refine dn_ifz_eq (pc := 9) 24 dX5_codeAt_9 rfl (fun _ => ?_) (fun _ => ?_)
  · refine dn_aload_n (pc := 12) r0 0 dX5_codeAt_12 rfl ?_
    refine dn_getR (pc := 13) r0 lRX5_26 dX5_codeAt_13 (fun v6 => ?_)
    refine dn_iload_n (pc := 16) 1 dX5_codeAt_16 rfl ?_
    refine dn_dald (pc := 17) v6 dX5_codeAt_17 (fun v7 => ?_)
    refine dn_callSN0L (pc := 18) [.double v7]  kRX5_83 (mX12_codeOfReal w x b v7) rfl rfl (Nat.le_of_ble_eq_true rfl) ⟨(Nat.le_of_ble_eq_true rfl), (Nat.le_of_ble_eq_true rfl)⟩ ⟨rfl, rfl, (Nat.le_of_ble_eq_true rfl), (Nat.le_of_ble_eq_true rfl)⟩ dX5_codeAt_18 (fun v8 => ?_)
    refine dn_goto (pc := 21) 30 dX5_codeAt_21 rfl ?_
    exact dn_ret (Nat.le_of_ble_eq_true rfl) (Nat.le_of_ble_eq_true rfl) rfl dX5_codeAt_30
  · refine dn_aload_n (pc := 24) r0 0 dX5_codeAt_24 rfl ?_
    refine dn_getR (pc := 25) r0 lRX5_22 dX5_codeAt_25 (fun v4 => ?_)
    refine dn_iload_n (pc := 28) 1 dX5_codeAt_28 rfl ?_
    refine dn_lald (pc := 29) v4 dX5_codeAt_29 (fun v5 => ?_)
    exact dn_ret (Nat.le_of_ble_eq_true rfl) (Nat.le_of_ble_eq_true rfl) rfl dX5_codeAt_30
abbrev rmX9_checksumOfRow : Room := { frames := 2, cells := 0, slots := 0, locals := 42 }
def fX9_checksumOfRow_b51 (c3 : Option Nat) (s51 : Int64 × Int32) : dnM ((Int64 × Int32) ⊕ (Int64)) :=
  dnB (dnGI c3 4 2) fun v4 =>
  if v4 ≤ s51.2 then
  (dnP (.inr s51.1))
  else
  (dnB (dnGR c3 4 3) fun v5 =>
  dnB (dnAI v5 100 s51.2) fun v6 =>
  dnB (dnCv c3 4 (fX5_codeAt c3 s51.2)) fun v7 =>
  dnP (.inl (((31 * ((31 * s51.1) + ((v6 : Int32).toInt64))) + v7), (s51.2 + 1))))
def fX9_checksumOfRow (r0 : Option Nat) (p1 : Int64) (r3 : Option Nat) : dnM Int64 :=
  dnB (dnGI r3 4 0) fun v1 =>
  dnB (dnCv r0 7 (fX9_firstHolder r0 v1)) fun v2 =>
  dnB (dnNz 6) fun _ =>
  dnB (dnNz 6) fun _ =>
  dnB (dnGI r3 4 2) fun v3 =>
  dnB (dnIt 1000 (fX9_checksumOfRow_b51 r3) (((31 * (((31 * p1) + (((10 * (v2 / 6)) : Int32).toInt64)) + (((v2 - v2 / 6 * 6) : Int32).toInt64))) + ((v3 : Int32).toInt64)), 0)) fun q51 =>
  dnP q51
abbrev jX9_checksumOfRow (w : dnWd) (x : dnX) (b : Nat) := dnD w x b (fun _ => True) cX9_checksumOfRow RX9 8 rmX9_checksumOfRow "checksumOfRow" eL
set_option maxHeartbeats 4000000 in
set_option maxRecDepth 100000 in
theorem mX9_checksumOfRow (w : dnWd) (x : dnX) (b : Nat) (r0 : Option Nat) (p1 : Int64) (r3 : Option Nat) : dnMt w x b yX9_checksumOfRow cX9_checksumOfRow 8 (some .long) rmX9_checksumOfRow eL [dnV b r0, .long p1, dnV b r3] (fX9_checksumOfRow r0 p1 r3) := by
  have hlv : lv_args 0 [dnV b r0, .long p1, dnV b r3] = [(0, dnV b r0), (1, .long p1), (3, dnV b r3)] := by cases r0 <;> cases r3 <;> rfl
  refine dn_mt (by decide +kernel) roL (by cases r0 <;> cases r3 <;> exact (Nat.le_of_ble_eq_true rfl)) ?_
  rw [hlv]
  refine dn_top ?_
  show jX9_checksumOfRow w x b 0 0 0 _ [] (dnB _ dnP)
  unfold fX9_checksumOfRow
  refine dn_aload_n (pc := 0) r0 0 dX9_checksumOfRow_0 rfl ?_
  refine dn_aload_n (pc := 1) r3 2 dX9_checksumOfRow_1 rfl ?_
  refine dn_getI (pc := 2) r3 lRX9_66 dX9_checksumOfRow_2 (fun v1 => ?_)
  refine dn_callV0I (pc := 5) [.int v1] r0 kRX9_59 (mX9_firstHolder w x b r0 v1) rfl rfl (Nat.le_of_ble_eq_true rfl) ⟨(Nat.le_of_ble_eq_true rfl), (Nat.le_of_ble_eq_true rfl)⟩ ⟨rfl, rfl, (Nat.le_of_ble_eq_true rfl), (Nat.le_of_ble_eq_true rfl)⟩ dX9_checksumOfRow_5 (fun v2 => ?_)
  refine dn_istore (pc := 8) dX9_checksumOfRow_8 (Nat.le_of_ble_eq_true rfl) (dnKp_nb 2 rfl (dn_cat b _) rfl (dnKp_of (lv2 := [(1, .long p1)]) [1] rfl rfl)) ?_
  refine dn_ldc2 (pc := 10) kRX9_134 dX9_checksumOfRow_10 ?_
  refine dn_lload_n (pc := 13) 2 dX9_checksumOfRow_13 rfl ?_
  refine dn_lmul (pc := 14) dX9_checksumOfRow_14 ?_
  refine dn_bipush (pc := 15) (v := 10) dX9_checksumOfRow_15 rfl ?_
  refine dn_iload (pc := 17) 0 dX9_checksumOfRow_17 rfl ?_
  refine dn_bipush (pc := 19) (v := 6) dX9_checksumOfRow_19 rfl ?_
  refine dn_idiv (pc := 21) dX9_checksumOfRow_21 ?_
  refine dn_imul (pc := 22) dX9_checksumOfRow_22 ?_
  refine dn_i2l (pc := 23) dX9_checksumOfRow_23 ?_
  refine dn_ladd (pc := 24) dX9_checksumOfRow_24 ?_
  refine dn_iload (pc := 25) 0 dX9_checksumOfRow_25 rfl ?_
  refine dn_bipush (pc := 27) (v := 6) dX9_checksumOfRow_27 rfl ?_
  refine dn_irem (pc := 29) dX9_checksumOfRow_29 ?_
  refine dn_i2l (pc := 30) dX9_checksumOfRow_30 ?_
  refine dn_ladd (pc := 31) dX9_checksumOfRow_31 ?_
  refine dn_lstore (pc := 32) dX9_checksumOfRow_32 (Nat.le_of_ble_eq_true rfl) (dnKp_of (lv2 := [(3, dnV b r3)]) [1] rfl rfl) ?_
  refine dn_ldc2 (pc := 34) kRX9_134 dX9_checksumOfRow_34 ?_
  refine dn_lload (pc := 37) 0 dX9_checksumOfRow_37 rfl ?_
  refine dn_lmul (pc := 39) dX9_checksumOfRow_39 ?_
  refine dn_aload_n (pc := 40) r3 1 dX9_checksumOfRow_40 rfl ?_
  refine dn_getI (pc := 41) r3 lRX9_103 dX9_checksumOfRow_41 (fun v3 => ?_)
  refine dn_i2l (pc := 44) dX9_checksumOfRow_44 ?_
  refine dn_ladd (pc := 45) dX9_checksumOfRow_45 ?_
  refine dn_lstore (pc := 46) dX9_checksumOfRow_46 (Nat.le_of_ble_eq_true rfl) (dnKp_of (lv2 := [(3, dnV b r3)]) [1] rfl rfl) ?_
  refine dn_iconst (pc := 48) (v := 0) dX9_checksumOfRow_48 rfl ?_
  refine dn_istore (pc := 49) dX9_checksumOfRow_49 (Nat.le_of_ble_eq_true rfl) (dnKp_of (lv2 := [(5, .long ((31 * (((31 * p1) + (((10 * (v2 / 6)) : Int32).toInt64)) + (((v2 - v2 / 6 * 6) : Int32).toInt64))) + ((v3 : Int32).toInt64))), (3, dnV b r3)]) [0, 1] rfl rfl) ?_
  refine dn_assoc ?_
  refine dn_lv [2, 1, 0] (lv2 := (fun s => [(3, dnV b r3), (5, .long s.1), (7, .int s.2)]) (((31 * (((31 * p1) + (((10 * (v2 / 6)) : Int32).toInt64)) + (((v2 - v2 / 6 * 6) : Int32).toInt64))) + ((v3 : Int32).toInt64)), 0)) rfl ?_
  refine dn_loopE (pc := 51) (body := fX9_checksumOfRow_b51 r3) 98 (fun s => [(3, dnV b r3), (5, .long s.1), (7, .int s.2)]) (fun q => [(5, .long q)]) (fun s51 K51 E51 hK51 hE51 => ?_) (fun q51 => ?_) 1000 (((31 * (((31 * p1) + (((10 * (v2 / 6)) : Int32).toInt64)) + (((v2 - v2 / 6 * 6) : Int32).toInt64))) + ((v3 : Int32).toInt64)), 0)
  · unfold fX9_checksumOfRow_b51
    refine dn_iload (pc := 51) 2 dX9_checksumOfRow_51 rfl ?_
    refine dn_aload_n (pc := 53) r3 0 dX9_checksumOfRow_53 rfl ?_
    refine dn_getI (pc := 54) r3 lRX9_103 dX9_checksumOfRow_54 (fun v4 => ?_)
    refine dn_icmp_ge (pc := 57) 98 dX9_checksumOfRow_57 rfl (fun _ => ?_) (fun _ => ?_)
    · refine dn_leaf ?_
      exact dn_lv [1] rfl (hE51 s51.1)
    · refine dn_ldc2 (pc := 60) kRX9_134 dX9_checksumOfRow_60 ?_
      refine dn_lload (pc := 63) 1 dX9_checksumOfRow_63 rfl ?_
      refine dn_lmul (pc := 65) dX9_checksumOfRow_65 ?_
      refine dn_aload_n (pc := 66) r3 0 dX9_checksumOfRow_66 rfl ?_
      refine dn_getR (pc := 67) r3 lRX9_129 dX9_checksumOfRow_67 (fun v5 => ?_)
      refine dn_iload (pc := 70) 2 dX9_checksumOfRow_70 rfl ?_
      refine dn_iald (pc := 72) v5 dX9_checksumOfRow_72 (fun v6 => ?_)
      refine dn_i2l (pc := 73) dX9_checksumOfRow_73 ?_
      refine dn_ladd (pc := 74) dX9_checksumOfRow_74 ?_
      refine dn_lstore (pc := 75) dX9_checksumOfRow_75 (Nat.le_of_ble_eq_true rfl) (dnKp_of (lv2 := [(3, dnV b r3), (7, .int s51.2)]) [0, 2] rfl rfl) ?_
      refine dn_ldc2 (pc := 77) kRX9_134 dX9_checksumOfRow_77 ?_
      refine dn_lload (pc := 80) 0 dX9_checksumOfRow_80 rfl ?_
      refine dn_lmul (pc := 82) dX9_checksumOfRow_82 ?_
      refine dn_aload_n (pc := 83) r3 1 dX9_checksumOfRow_83 rfl ?_
      refine dn_iload (pc := 84) 2 dX9_checksumOfRow_84 rfl ?_
      refine dn_callV0L (pc := 86) [.int s51.2] r3 kRX9_140 (mX5_codeAt w x b r3 s51.2) rfl rfl (Nat.le_of_ble_eq_true rfl) ⟨(Nat.le_of_ble_eq_true rfl), (Nat.le_of_ble_eq_true rfl)⟩ ⟨rfl, rfl, (Nat.le_of_ble_eq_true rfl), (Nat.le_of_ble_eq_true rfl)⟩ dX9_checksumOfRow_86 (fun v7 => ?_)
      refine dn_ladd (pc := 89) dX9_checksumOfRow_89 ?_
      refine dn_lstore (pc := 90) dX9_checksumOfRow_90 (Nat.le_of_ble_eq_true rfl) (dnKp_of (lv2 := [(3, dnV b r3), (7, .int s51.2)]) [1, 2] rfl rfl) ?_
      refine dn_iinc (pc := 92) (s51.2 + 1) 2 dX9_checksumOfRow_92 rfl rfl (Nat.le_of_ble_eq_true rfl) (dnKp_of (lv2 := [(5, .long ((31 * ((31 * s51.1) + ((v6 : Int32).toInt64))) + v7)), (3, dnV b r3)]) [0, 1] rfl rfl) ?_
      refine dn_goto (pc := 95) 51 dX9_checksumOfRow_95 rfl ?_
      refine dn_leaf ?_
      exact dn_lv [2, 1, 0] rfl (hK51 (((31 * ((31 * s51.1) + ((v6 : Int32).toInt64))) + v7), (s51.2 + 1)))
  · refine dn_lload (pc := 98) 0 dX9_checksumOfRow_98 rfl ?_
    exact dn_ret (Nat.le_of_ble_eq_true rfl) (Nat.le_of_ble_eq_true rfl) rfl dX9_checksumOfRow_100
abbrev rmX9_checksum : Room := { frames := 4, cells := 0, slots := 0, locals := 88 }
def fX9_checksum_j79 (l0 : Option Nat) (l3 : Int32) (l4 : Int32) (s0 : Int64) : dnM ((Int64 × Int32) ⊕ (Int64)) :=
  dnP (.inl (s0, (l4 + 1)))
def fX9_checksum_b28 (c0 : Option Nat) (c3 : Int32) (s28 : Int64 × Int32) : dnM ((Int64 × Int32) ⊕ (Int64)) :=
  dnB (dnGR c0 7 0) fun v3 =>
  dnB (dnAI v3 100 c3) fun v4 =>
  if v4 ≤ s28.2 then
  (dnP (.inr s28.1))
  else
  (dnB (dnCv c0 7 (fX9_contentOf c0 c3 s28.2)) fun v5 =>
  dnB (dnCv c0 7 (fX9_rowAt c0 c3 s28.2)) fun v6 =>
  v6.elim
  (fX9_checksum_j79 c0 c3 s28.2 ((31 * s28.1) + ((v5 : Int32).toInt64)))
  (fun v7 => dnB (dnCv c0 7 (fX9_checksumOfRow c0 ((31 * s28.1) + ((v5 : Int32).toInt64)) (some v7))) fun v8 =>
  fX9_checksum_j79 c0 c3 s28.2 v8))
def fX9_checksum_b6 (c0 : Option Nat) (s6 : Int64 × Int32) : dnM ((Int64 × Int32) ⊕ (Int64)) :=
  if 4 ≤ s6.2 then
  (dnP (.inr s6.1))
  else
  (dnB (dnGR c0 7 0) fun v1 =>
  dnB (dnAI v1 100 s6.2) fun v2 =>
  dnB (dnIt 1000 (fX9_checksum_b28 c0 s6.2) (((31 * s6.1) + ((v2 : Int32).toInt64)), 0)) fun q28 =>
  dnP (.inl (q28, (s6.2 + 1))))
def fX9_checksum (r0 : Option Nat) : dnM Int64 :=
  dnB (dnIt 1000 (fX9_checksum_b6 r0) (17, 0)) fun q6 =>
  dnP q6
abbrev jX9_checksum (w : dnWd) (x : dnX) (b : Nat) := dnD w x b (fun _ => True) cX9_checksum RX9 6 rmX9_checksum "checksum" eL
set_option maxHeartbeats 4000000 in
set_option maxRecDepth 100000 in
theorem mX9_checksum (w : dnWd) (x : dnX) (b : Nat) (r0 : Option Nat) : dnMt w x b yX9_checksum cX9_checksum 6 (some .long) rmX9_checksum eL [dnV b r0] (fX9_checksum r0) := by
  have hlv : lv_args 0 [dnV b r0] = [(0, dnV b r0)] := by cases r0 <;> rfl
  refine dn_mt (by decide +kernel) roL (by cases r0 <;> exact (Nat.le_of_ble_eq_true rfl)) ?_
  rw [hlv]
  refine dn_top ?_
  show jX9_checksum w x b 0 0 0 _ [] (dnB _ dnP)
  unfold fX9_checksum
  refine dn_ldc2 (pc := 0) kRX9_132 dX9_checksum_0 ?_
  refine dn_lstore_n (pc := 3) dX9_checksum_3 (Nat.le_of_ble_eq_true rfl) (dnKp_nb 0 rfl (dn_cat b _) rfl (dnKp_of (lv2 := []) [] rfl rfl)) ?_
  refine dn_iconst (pc := 4) (v := 0) dX9_checksum_4 rfl ?_
  refine dn_istore_n (pc := 5) dX9_checksum_5 (Nat.le_of_ble_eq_true rfl) (dnKp_of (lv2 := [(1, .long 17), (0, dnV b r0)]) [0, 1] rfl rfl) ?_
  refine dn_assoc ?_
  refine dn_lv [2, 1, 0] (lv2 := (fun s => [(0, dnV b r0), (1, .long s.1), (3, .int s.2)]) (17, 0)) rfl ?_
  refine dn_loopE (pc := 6) (body := fX9_checksum_b6 r0) 92 (fun s => [(0, dnV b r0), (1, .long s.1), (3, .int s.2)]) (fun q => [(1, .long q)]) (fun s6 K6 E6 hK6 hE6 => ?_) (fun q6 => ?_) 1000 (17, 0)
  · unfold fX9_checksum_b6
    refine dn_iload_n (pc := 6) 2 dX9_checksum_6 rfl ?_
    refine dn_iconst (pc := 7) (v := 4) dX9_checksum_7 rfl ?_
    refine dn_icmp_ge (pc := 8) 92 dX9_checksum_8 rfl (fun _ => ?_) (fun _ => ?_)
    · refine dn_leaf ?_
      exact dn_lv [1] rfl (hE6 s6.1)
    · refine dn_ldc2 (pc := 11) kRX9_134 dX9_checksum_11 ?_
      refine dn_lload_n (pc := 14) 1 dX9_checksum_14 rfl ?_
      refine dn_lmul (pc := 15) dX9_checksum_15 ?_
      refine dn_aload_n (pc := 16) r0 0 dX9_checksum_16 rfl ?_
      refine dn_getR (pc := 17) r0 lRX9_9 dX9_checksum_17 (fun v1 => ?_)
      refine dn_iload_n (pc := 20) 2 dX9_checksum_20 rfl ?_
      refine dn_iald (pc := 21) v1 dX9_checksum_21 (fun v2 => ?_)
      refine dn_i2l (pc := 22) dX9_checksum_22 ?_
      refine dn_ladd (pc := 23) dX9_checksum_23 ?_
      refine dn_lstore_n (pc := 24) dX9_checksum_24 (Nat.le_of_ble_eq_true rfl) (dnKp_nb 0 rfl (dn_cat b _) rfl (dnKp_of (lv2 := [(3, .int s6.2)]) [2] rfl rfl)) ?_
      refine dn_iconst (pc := 25) (v := 0) dX9_checksum_25 rfl ?_
      refine dn_istore (pc := 26) dX9_checksum_26 (Nat.le_of_ble_eq_true rfl) (dnKp_nb 2 rfl rfl rfl (dnKp_of (lv2 := [(1, .long ((31 * s6.1) + ((v2 : Int32).toInt64))), (0, dnV b r0)]) [0, 1] rfl rfl)) ?_
      refine dn_assoc ?_
      refine dn_lv [3, 2, 1, 0] (lv2 := (fun s => [(0, dnV b r0), (1, .long s.1), (3, .int s6.2), (4, .int s.2)]) (((31 * s6.1) + ((v2 : Int32).toInt64)), 0)) rfl ?_
      refine dn_loopE (pc := 28) (body := fX9_checksum_b28 r0 s6.2) 86 (fun s => [(0, dnV b r0), (1, .long s.1), (3, .int s6.2), (4, .int s.2)]) (fun q => [(0, dnV b r0), (1, .long q), (3, .int s6.2)]) (fun s28 K28 E28 hK28 hE28 => ?_) (fun q28 => ?_) 1000 (((31 * s6.1) + ((v2 : Int32).toInt64)), 0)
      · unfold fX9_checksum_b28
        have hj79 : ∀ (l4 : Int32) (s0 : Int64), jX9_checksum w x b 79 0 0 [(0, dnV b r0), (3, .int s6.2), (4, .int l4)] [.long s0] (dnB (fX9_checksum_j79 r0 s6.2 l4 s0) (dnKo K28 E28)) := by
          intro l4 s0
          unfold fX9_checksum_j79
          refine dn_lstore_n (pc := 79) dX9_checksum_79 (Nat.le_of_ble_eq_true rfl) (dnKp_nb 0 rfl (dn_cat b _) rfl (dnKp_of (lv2 := [(3, .int s6.2), (4, .int l4)]) [1, 2] rfl rfl)) ?_
          refine dn_iinc (pc := 80) (l4 + 1) 3 dX9_checksum_80 rfl rfl (Nat.le_of_ble_eq_true rfl) (dnKp_nb 2 rfl rfl rfl (dnKp_of (lv2 := [(1, .long s0), (0, dnV b r0)]) [0, 1] rfl rfl)) ?_
          refine dn_goto (pc := 83) 28 dX9_checksum_83 rfl ?_
          refine dn_leaf ?_
          exact dn_lv [3, 2, 1, 0] rfl (hK28 (s0, (l4 + 1)))
        refine dn_iload (pc := 28) 3 dX9_checksum_28 rfl ?_
        refine dn_aload_n (pc := 30) r0 0 dX9_checksum_30 rfl ?_
        refine dn_getR (pc := 31) r0 lRX9_9 dX9_checksum_31 (fun v3 => ?_)
        refine dn_iload_n (pc := 34) 2 dX9_checksum_34 rfl ?_
        refine dn_iald (pc := 35) v3 dX9_checksum_35 (fun v4 => ?_)
        refine dn_icmp_ge (pc := 36) 86 dX9_checksum_36 rfl (fun _ => ?_) (fun _ => ?_)
        · refine dn_leaf ?_
          exact dn_lv [0, 1, 2] rfl (hE28 s28.1)
        · refine dn_ldc2 (pc := 39) kRX9_134 dX9_checksum_39 ?_
          refine dn_lload_n (pc := 42) 1 dX9_checksum_42 rfl ?_
          refine dn_lmul (pc := 43) dX9_checksum_43 ?_
          refine dn_aload_n (pc := 44) r0 0 dX9_checksum_44 rfl ?_
          refine dn_iload_n (pc := 45) 2 dX9_checksum_45 rfl ?_
          refine dn_iload (pc := 46) 3 dX9_checksum_46 rfl ?_
          refine dn_callV0I (pc := 48) [.int s6.2, .int s28.2] r0 kRX9_91 (mX9_contentOf w x b r0 s6.2 s28.2) rfl rfl (Nat.le_of_ble_eq_true rfl) ⟨(Nat.le_of_ble_eq_true rfl), (Nat.le_of_ble_eq_true rfl)⟩ ⟨rfl, rfl, (Nat.le_of_ble_eq_true rfl), (Nat.le_of_ble_eq_true rfl)⟩ dX9_checksum_48 (fun v5 => ?_)
          refine dn_i2l (pc := 51) dX9_checksum_51 ?_
          refine dn_ladd (pc := 52) dX9_checksum_52 ?_
          refine dn_lstore_n (pc := 53) dX9_checksum_53 (Nat.le_of_ble_eq_true rfl) (dnKp_nb 0 rfl (dn_cat b _) rfl (dnKp_of (lv2 := [(3, .int s6.2), (4, .int s28.2)]) [2, 3] rfl rfl)) ?_
          refine dn_aload_n (pc := 54) r0 1 dX9_checksum_54 rfl ?_
          refine dn_iload_n (pc := 55) 2 dX9_checksum_55 rfl ?_
          refine dn_iload (pc := 56) 3 dX9_checksum_56 rfl ?_
          refine dn_callV0R (pc := 58) [.int s6.2, .int s28.2] r0 kRX9_94 (mX9_rowAt w x b r0 s6.2 s28.2) rfl rfl (Nat.le_of_ble_eq_true rfl) ⟨(Nat.le_of_ble_eq_true rfl), (Nat.le_of_ble_eq_true rfl)⟩ ⟨rfl, rfl, (Nat.le_of_ble_eq_true rfl), (Nat.le_of_ble_eq_true rfl)⟩ dX9_checksum_58 (fun v6 => ?_)
          refine dn_astore (pc := 61) v6 dX9_checksum_61 (Nat.le_of_ble_eq_true rfl) (dnKp_nb 3 rfl rfl rfl (dnKp_of (lv2 := [(1, .long ((31 * s28.1) + ((v5 : Int32).toInt64))), (0, dnV b r0), (3, .int s6.2)]) [0, 1, 2] rfl rfl)) ?_
          refine dn_aload (pc := 63) v6 0 dX9_checksum_63 rfl ?_
          refine dn_ifnonnull (pc := 65) v6 72 dX9_checksum_65 rfl (fun e_ => ?_) (fun v7 e_ => ?_)
          · subst e_
            refine dn_lload_n (pc := 68) 2 dX9_checksum_68 rfl ?_
            refine dn_goto (pc := 69) 79 dX9_checksum_69 rfl ?_
            exact dn_lv [3, 4, 1] rfl (hj79 s28.2 ((31 * s28.1) + ((v5 : Int32).toInt64)))
          · subst e_
            refine dn_aload_n (pc := 72) r0 3 dX9_checksum_72 rfl ?_
            refine dn_lload_n (pc := 73) 2 dX9_checksum_73 rfl ?_
            refine dn_aload (pc := 74) (some v7) 0 dX9_checksum_74 rfl ?_
            refine dn_callV0L (pc := 76) [.long ((31 * s28.1) + ((v5 : Int32).toInt64)), dnV b (some v7)] r0 kRX9_136 (mX9_checksumOfRow w x b r0 ((31 * s28.1) + ((v5 : Int32).toInt64)) (some v7)) rfl rfl (Nat.le_of_ble_eq_true rfl) ⟨(Nat.le_of_ble_eq_true rfl), (Nat.le_of_ble_eq_true rfl)⟩ ⟨rfl, rfl, (Nat.le_of_ble_eq_true rfl), (Nat.le_of_ble_eq_true rfl)⟩ dX9_checksum_76 (fun v8 => ?_)
            exact dn_lv [3, 4, 1] rfl (hj79 s28.2 v8)
      · refine dn_iinc (pc := 86) (s6.2 + 1) 2 dX9_checksum_86 rfl rfl (Nat.le_of_ble_eq_true rfl) (dnKp_of (lv2 := [(0, dnV b r0), (1, .long q28)]) [0, 1] rfl rfl) ?_
        refine dn_goto (pc := 89) 6 dX9_checksum_89 rfl ?_
        refine dn_leaf ?_
        exact dn_lv [1, 2, 0] rfl (hK6 (q28, (s6.2 + 1)))
  · refine dn_lload_n (pc := 92) 0 dX9_checksum_92 rfl ?_
    exact dn_ret (Nat.le_of_ble_eq_true rfl) (Nat.le_of_ble_eq_true rfl) rfl dX9_checksum_93
abbrev rmX12_digest : Room := { frames := 5, cells := 0, slots := 0, locals := 113 }
def fX12_digest (r0 : Option Nat) : dnM Int64 :=
  dnB (dnGR r0 10 0) fun v1 =>
  dnB (dnCv v1 7 (fX9_checksum v1)) fun v2 =>
  dnP v2
abbrev jX12_digest (w : dnWd) (x : dnX) (b : Nat) := dnD w x b (fun _ => True) cX12_digest RX12 1 rmX12_digest "digest" eL
set_option maxHeartbeats 4000000 in
set_option maxRecDepth 100000 in
theorem mX12_digest (w : dnWd) (x : dnX) (b : Nat) (r0 : Option Nat) : dnMt w x b yX12_digest cX12_digest 1 (some .long) rmX12_digest eL [dnV b r0] (fX12_digest r0) := by
  have hlv : lv_args 0 [dnV b r0] = [(0, dnV b r0)] := by cases r0 <;> rfl
  refine dn_mt (by decide +kernel) roL (by cases r0 <;> exact (Nat.le_of_ble_eq_true rfl)) ?_
  rw [hlv]
  refine dn_top ?_
  show jX12_digest w x b 0 0 0 _ [] (dnB _ dnP)
  unfold fX12_digest
  refine dn_aload_n (pc := 0) r0 0 dX12_digest_0 rfl ?_
  refine dn_getR (pc := 1) r0 lRX12_10 dX12_digest_1 (fun v1 => ?_)
  refine dn_callV0L (pc := 4) [] v1 kRX12_278 (mX9_checksum w x b v1) rfl rfl (Nat.le_of_ble_eq_true rfl) ⟨(Nat.le_of_ble_eq_true rfl), (Nat.le_of_ble_eq_true rfl)⟩ ⟨rfl, rfl, (Nat.le_of_ble_eq_true rfl), (Nat.le_of_ble_eq_true rfl)⟩ dX12_digest_4 (fun v2 => ?_)
  exact dn_ret (Nat.le_of_ble_eq_true rfl) (Nat.le_of_ble_eq_true rfl) rfl dX12_digest_7
abbrev rmX12_dot : Room := { frames := 5, cells := 0, slots := 0, locals := 116 }
def fX12_dot (r0 : Option Nat) (p1 : Int32) (p2 : Int32) (p3 : Int32) (p4 : Int32) (p5 : Int32) : dnM Int32 :=
  dnB (dnGR r0 10 6) fun v1 =>
  dnB (dnCv v1 8 (fX10_sumProducts v1 p1 p2 p3 p4 p5)) fun v2 =>
  dnB (dnCv r0 10 (fX12_tally r0 v2)) fun v3 =>
  dnP v3
abbrev jX12_dot (w : dnWd) (x : dnX) (b : Nat) := dnD w x b (fun _ => True) cX12_dot RX12 6 rmX12_dot "dot" eI
set_option maxHeartbeats 4000000 in
set_option maxRecDepth 100000 in
theorem mX12_dot (w : dnWd) (x : dnX) (b : Nat) (r0 : Option Nat) (p1 : Int32) (p2 : Int32) (p3 : Int32) (p4 : Int32) (p5 : Int32) : dnMt w x b yX12_dot cX12_dot 6 (some .int) rmX12_dot eI [dnV b r0, .int p1, .int p2, .int p3, .int p4, .int p5] (fX12_dot r0 p1 p2 p3 p4 p5) := by
  have hlv : lv_args 0 [dnV b r0, .int p1, .int p2, .int p3, .int p4, .int p5] = [(0, dnV b r0), (1, .int p1), (2, .int p2), (3, .int p3), (4, .int p4), (5, .int p5)] := by cases r0 <;> rfl
  refine dn_mt (by decide +kernel) roI (by cases r0 <;> exact (Nat.le_of_ble_eq_true rfl)) ?_
  rw [hlv]
  refine dn_top ?_
  show jX12_dot w x b 0 0 0 _ [] (dnB _ dnP)
  unfold fX12_dot
  refine dn_aload_n (pc := 0) r0 0 dX12_dot_0 rfl ?_
  refine dn_aload_n (pc := 1) r0 0 dX12_dot_1 rfl ?_
  refine dn_getR (pc := 2) r0 lRX12_49 dX12_dot_2 (fun v1 => ?_)
  refine dn_iload_n (pc := 5) 1 dX12_dot_5 rfl ?_
  refine dn_iload_n (pc := 6) 2 dX12_dot_6 rfl ?_
  refine dn_iload_n (pc := 7) 3 dX12_dot_7 rfl ?_
  refine dn_iload (pc := 8) 4 dX12_dot_8 rfl ?_
  refine dn_iload (pc := 10) 5 dX12_dot_10 rfl ?_
  refine dn_callV0I (pc := 12) [.int p1, .int p2, .int p3, .int p4, .int p5] v1 kRX12_185 (mX10_sumProducts w x b v1 p1 p2 p3 p4 p5) rfl rfl (Nat.le_of_ble_eq_true rfl) ⟨(Nat.le_of_ble_eq_true rfl), (Nat.le_of_ble_eq_true rfl)⟩ ⟨rfl, rfl, (Nat.le_of_ble_eq_true rfl), (Nat.le_of_ble_eq_true rfl)⟩ dX12_dot_12 (fun v2 => ?_)
  refine dn_callV0I (pc := 15) [.int v2] r0 kRX12_91 (mX12_tally w x b r0 v2) rfl rfl (Nat.le_of_ble_eq_true rfl) ⟨(Nat.le_of_ble_eq_true rfl), (Nat.le_of_ble_eq_true rfl)⟩ ⟨rfl, rfl, (Nat.le_of_ble_eq_true rfl), (Nat.le_of_ble_eq_true rfl)⟩ dX12_dot_15 (fun v3 => ?_)
  exact dn_ret (Nat.le_of_ble_eq_true rfl) (Nat.le_of_ble_eq_true rfl) rfl dX12_dot_18
abbrev rmX12_drop : Room := { frames := 3, cells := 0, slots := 0, locals := 64 }
def fX12_drop (r0 : Option Nat) (p1 : Int32) : dnM Int32 :=
  dnB (dnGR r0 10 0) fun v1 =>
  dnB (dnCv v1 7 (fX9_removeGrid v1 p1)) fun v2 =>
  dnB (dnCv r0 10 (fX12_tally r0 v2)) fun v3 =>
  dnP v3
abbrev jX12_drop (w : dnWd) (x : dnX) (b : Nat) := dnD w x b (fun _ => True) cX12_drop RX12 2 rmX12_drop "drop" eI
set_option maxHeartbeats 4000000 in
set_option maxRecDepth 100000 in
theorem mX12_drop (w : dnWd) (x : dnX) (b : Nat) (r0 : Option Nat) (p1 : Int32) : dnMt w x b yX12_drop cX12_drop 2 (some .int) rmX12_drop eI [dnV b r0, .int p1] (fX12_drop r0 p1) := by
  have hlv : lv_args 0 [dnV b r0, .int p1] = [(0, dnV b r0), (1, .int p1)] := by cases r0 <;> rfl
  refine dn_mt (by decide +kernel) roI (by cases r0 <;> exact (Nat.le_of_ble_eq_true rfl)) ?_
  rw [hlv]
  refine dn_top ?_
  show jX12_drop w x b 0 0 0 _ [] (dnB _ dnP)
  unfold fX12_drop
  refine dn_aload_n (pc := 0) r0 0 dX12_drop_0 rfl ?_
  refine dn_aload_n (pc := 1) r0 0 dX12_drop_1 rfl ?_
  refine dn_getR (pc := 2) r0 lRX12_10 dX12_drop_2 (fun v1 => ?_)
  refine dn_iload_n (pc := 5) 1 dX12_drop_5 rfl ?_
  refine dn_callV0I (pc := 6) [.int p1] v1 kRX12_95 (mX9_removeGrid w x b v1 p1) rfl rfl (Nat.le_of_ble_eq_true rfl) ⟨(Nat.le_of_ble_eq_true rfl), (Nat.le_of_ble_eq_true rfl)⟩ ⟨rfl, rfl, (Nat.le_of_ble_eq_true rfl), (Nat.le_of_ble_eq_true rfl)⟩ dX12_drop_6 (fun v2 => ?_)
  refine dn_callV0I (pc := 9) [.int v2] r0 kRX12_91 (mX12_tally w x b r0 v2) rfl rfl (Nat.le_of_ble_eq_true rfl) ⟨(Nat.le_of_ble_eq_true rfl), (Nat.le_of_ble_eq_true rfl)⟩ ⟨rfl, rfl, (Nat.le_of_ble_eq_true rfl), (Nat.le_of_ble_eq_true rfl)⟩ dX12_drop_9 (fun v3 => ?_)
  exact dn_ret (Nat.le_of_ble_eq_true rfl) (Nat.le_of_ble_eq_true rfl) rfl dX12_drop_12
abbrev rmX12_isSort : Room := { frames := 0, cells := 0, slots := 0, locals := 0 }
def fX12_isSort (p0 : Int32) : dnM Bool :=
  if p0 < 0 then
  (dnP false)
  else
  (if 12 ≤ p0 then
  (dnP false)
  else
  (dnP true))
abbrev jX12_isSort (w : dnWd) (x : dnX) (b : Nat) := dnD w x b (fun _ => True) cX12_isSort RX12 1 rmX12_isSort "isSort" eZ
set_option maxHeartbeats 4000000 in
set_option maxRecDepth 100000 in
theorem mX12_isSort (w : dnWd) (x : dnX) (b : Nat) (p0 : Int32) : dnMt w x b yX12_isSort cX12_isSort 1 (some .boolean) rmX12_isSort eZ [.int p0] (fX12_isSort p0) := by
  have hlv : lv_args 0 [.int p0] = [(0, .int p0)] := by rfl
  refine dn_mt (by decide +kernel) roZ (by exact (Nat.le_of_ble_eq_true rfl)) ?_
  rw [hlv]
  refine dn_top ?_
  show jX12_isSort w x b 0 0 0 _ [] (dnB _ dnP)
  unfold fX12_isSort
  refine dn_iload_n (pc := 0) 0 dX12_isSort_0 rfl ?_
  refine dn_if_lt (pc := 1) 14 dX12_isSort_1 rfl (fun _ => ?_) (fun _ => ?_)
  · refine dn_iconst (pc := 14) (v := 0) dX12_isSort_14 rfl ?_
    exact dn_ret (Nat.le_of_ble_eq_true rfl) (Nat.le_of_ble_eq_true rfl) rfl dX12_isSort_15
  · refine dn_iload_n (pc := 4) 0 dX12_isSort_4 rfl ?_
    refine dn_bipush (pc := 5) (v := 12) dX12_isSort_5 rfl ?_
    refine dn_icmp_ge (pc := 7) 14 dX12_isSort_7 rfl (fun _ => ?_) (fun _ => ?_)
    · refine dn_iconst (pc := 14) (v := 0) dX12_isSort_14 rfl ?_
      exact dn_ret (Nat.le_of_ble_eq_true rfl) (Nat.le_of_ble_eq_true rfl) rfl dX12_isSort_15
    · refine dn_iconst (pc := 10) (v := 1) dX12_isSort_10 rfl ?_
      refine dn_goto (pc := 11) 15 dX12_isSort_11 rfl ?_
      exact dn_ret (Nat.le_of_ble_eq_true rfl) (Nat.le_of_ble_eq_true rfl) rfl dX12_isSort_15
abbrev rmX6_findValue : Room := { frames := 4, cells := 0, slots := 0, locals := 87 }
def fX6_findValue_b55 (c0 : Option Nat) (c6 : Option Nat) (s55 : Int32) : dnM ((Int32) ⊕ ((Unit) ⊕ Int32)) :=
  dnB (dnGI c6 4 2) fun v10 =>
  if v10 ≤ s55 then
  (dnP (.inr (.inl ())))
  else
  (dnB (dnGR c0 5 2) fun v11 =>
  dnB (dnCv c6 4 (fX5_matches c6 s55 v11 0)) fun v12 =>
  if v12 = true then
  (dnP (.inr (.inr s55)))
  else
  (dnP (.inl (s55 + 1))))
def fX6_findValue (r0 : Option Nat) (p1 : Int32) (p2 : Int32) (p3 : Int32) (p4 : Int64) : dnM Int32 :=
  dnB (fX12_isGrid p1) fun v1 =>
  if v1 = true then
  (dnB (fX12_isSort p3) fun v2 =>
  if v2 = true then
  (dnB (dnGR r0 5 0) fun v3 =>
  dnB (dnCv v3 7 (fX9_rowAt v3 p1 p2)) fun v4 =>
  v4.elim
  (dnB (dnGR r0 5 0) fun v6 =>
  dnB (dnCv v6 7 (fX9_rowFault v6 p1 p2)) fun v7 =>
  dnP v7)
  (fun v5 => dnB (dnGR r0 5 2) fun v8 =>
  dnB (dnCv v8 4 (fX5_become v8 p3 p4)) fun _ =>
  dnB (dnIt 1000 (fX6_findValue_b55 r0 (some v5)) 0) fun q_ => q_.elim (fun q55 => dnP (-9)) (fun v_ => dnP v_)))
  else
  (dnP (-1)))
  else
  (dnP (-1))
abbrev jX6_findValue (w : dnWd) (x : dnX) (b : Nat) := dnD w x b (fun _ => True) cX6_findValue RX6 8 rmX6_findValue "findValue" eI
set_option maxHeartbeats 4000000 in
set_option maxRecDepth 100000 in
theorem mX6_findValue (w : dnWd) (x : dnX) (b : Nat) (r0 : Option Nat) (p1 : Int32) (p2 : Int32) (p3 : Int32) (p4 : Int64) : dnMt w x b yX6_findValue cX6_findValue 8 (some .int) rmX6_findValue eI [dnV b r0, .int p1, .int p2, .int p3, .long p4] (fX6_findValue r0 p1 p2 p3 p4) := by
  have hlv : lv_args 0 [dnV b r0, .int p1, .int p2, .int p3, .long p4] = [(0, dnV b r0), (1, .int p1), (2, .int p2), (3, .int p3), (4, .long p4)] := by cases r0 <;> rfl
  refine dn_mt (by decide +kernel) roI (by cases r0 <;> exact (Nat.le_of_ble_eq_true rfl)) ?_
  rw [hlv]
  refine dn_top ?_
  show jX6_findValue w x b 0 0 0 _ [] (dnB _ dnP)
  unfold fX6_findValue
  refine dn_iload_n (pc := 0) 1 dX6_findValue_0 rfl ?_
  refine dn_callSN0Z (pc := 1) [.int p1]  kRX6_31 (mX12_isGrid w x b p1) rfl rfl (Nat.le_of_ble_eq_true rfl) ⟨(Nat.le_of_ble_eq_true rfl), (Nat.le_of_ble_eq_true rfl)⟩ ⟨rfl, rfl, (Nat.le_of_ble_eq_true rfl), (Nat.le_of_ble_eq_true rfl)⟩ dX6_findValue_1 (fun v1 => ?_)
  refine dn_ifz_eq (pc := 4) 14 dX6_findValue_4 rfl (fun _ => ?_) (fun _ => ?_)
  · refine dn_iload_n (pc := 7) 3 dX6_findValue_7 rfl ?_
    refine dn_callSN0Z (pc := 8) [.int p3]  kRX6_85 (mX12_isSort w x b p3) rfl rfl (Nat.le_of_ble_eq_true rfl) ⟨(Nat.le_of_ble_eq_true rfl), (Nat.le_of_ble_eq_true rfl)⟩ ⟨rfl, rfl, (Nat.le_of_ble_eq_true rfl), (Nat.le_of_ble_eq_true rfl)⟩ dX6_findValue_8 (fun v2 => ?_)
    refine dn_ifz_ne (pc := 11) 16 dX6_findValue_11 rfl (fun _ => ?_) (fun _ => ?_)
    · refine dn_aload_n (pc := 16) r0 0 dX6_findValue_16 rfl ?_
      refine dn_getR (pc := 17) r0 lRX6_23 dX6_findValue_17 (fun v3 => ?_)
      refine dn_iload_n (pc := 20) 1 dX6_findValue_20 rfl ?_
      refine dn_iload_n (pc := 21) 2 dX6_findValue_21 rfl ?_
      refine dn_callV0R (pc := 22) [.int p1, .int p2] v3 kRX6_35 (mX9_rowAt w x b v3 p1 p2) rfl rfl (Nat.le_of_ble_eq_true rfl) ⟨(Nat.le_of_ble_eq_true rfl), (Nat.le_of_ble_eq_true rfl)⟩ ⟨rfl, rfl, (Nat.le_of_ble_eq_true rfl), (Nat.le_of_ble_eq_true rfl)⟩ dX6_findValue_22 (fun v4 => ?_)
      refine dn_astore (pc := 25) v4 dX6_findValue_25 (Nat.le_of_ble_eq_true rfl) (dnKp_of (lv2 := [(0, dnV b r0), (1, .int p1), (2, .int p2), (3, .int p3), (4, .long p4)]) [0, 1, 2, 3, 4] rfl rfl) ?_
      refine dn_aload (pc := 27) v4 0 dX6_findValue_27 rfl ?_
      refine dn_ifnonnull (pc := 29) v4 42 dX6_findValue_29 rfl (fun e_ => ?_) (fun v5 e_ => ?_)
      · subst e_
        refine dn_aload_n (pc := 32) r0 1 dX6_findValue_32 rfl ?_
        refine dn_getR (pc := 33) r0 lRX6_23 dX6_findValue_33 (fun v6 => ?_)
        refine dn_iload_n (pc := 36) 2 dX6_findValue_36 rfl ?_
        refine dn_iload_n (pc := 37) 3 dX6_findValue_37 rfl ?_
        refine dn_callV0I (pc := 38) [.int p1, .int p2] v6 kRX6_41 (mX9_rowFault w x b v6 p1 p2) rfl rfl (Nat.le_of_ble_eq_true rfl) ⟨(Nat.le_of_ble_eq_true rfl), (Nat.le_of_ble_eq_true rfl)⟩ ⟨rfl, rfl, (Nat.le_of_ble_eq_true rfl), (Nat.le_of_ble_eq_true rfl)⟩ dX6_findValue_38 (fun v7 => ?_)
        exact dn_ret (Nat.le_of_ble_eq_true rfl) (Nat.le_of_ble_eq_true rfl) rfl dX6_findValue_41
      · subst e_
        refine dn_aload_n (pc := 42) r0 1 dX6_findValue_42 rfl ?_
        refine dn_getR (pc := 43) r0 lRX6_14 dX6_findValue_43 (fun v8 => ?_)
        refine dn_iload_n (pc := 46) 4 dX6_findValue_46 rfl ?_
        refine dn_lload (pc := 47) 5 dX6_findValue_47 rfl ?_
        refine dn_callV0U (pc := 49) [.int p3, .long p4] v8 kRX6_88 (mX5_become w x b v8 p3 p4) rfl rfl (Nat.le_of_ble_eq_true rfl) ⟨(Nat.le_of_ble_eq_true rfl), (Nat.le_of_ble_eq_true rfl)⟩ ⟨rfl, rfl, (Nat.le_of_ble_eq_true rfl), (Nat.le_of_ble_eq_true rfl)⟩ dX6_findValue_49 (fun _ => ?_)
        refine dn_iconst (pc := 52) (v := 0) dX6_findValue_52 rfl ?_
        refine dn_istore (pc := 53) dX6_findValue_53 (Nat.le_of_ble_eq_true rfl) (dnKp_nb 0 rfl (dn_cat b _) rfl (dnKp_of (lv2 := [(0, dnV b r0)]) [1] rfl rfl)) ?_
        refine dn_assoc ?_
        refine dn_lv [2, 1, 0] (lv2 := (fun s => [(0, dnV b r0), (6, dnV b (some v5)), (7, .int s)]) 0) rfl ?_
        refine dn_loopR (pc := 55) (body := fX6_findValue_b55 r0 (some v5)) 89 (fun s => [(0, dnV b r0), (6, dnV b (some v5)), (7, .int s)]) (fun q => []) (fun s55 K55 E55 hK55 hE55 hR55 => ?_) (dn_rt (Nat.le_of_ble_eq_true rfl) (Nat.le_of_ble_eq_true rfl) (fun _ => rfl)) (fun q55 => ?_) 1000 0
        · unfold fX6_findValue_b55
          refine dn_iload (pc := 55) 2 dX6_findValue_55 rfl ?_
          refine dn_aload (pc := 57) (some v5) 1 dX6_findValue_57 rfl ?_
          refine dn_getI (pc := 59) (some v5) lRX6_92 dX6_findValue_59 (fun v10 => ?_)
          refine dn_icmp_ge (pc := 62) 89 dX6_findValue_62 rfl (fun _ => ?_) (fun _ => ?_)
          · refine dn_leaf ?_
            exact dn_lv [] rfl (hE55 ())
          · refine dn_aload (pc := 65) (some v5) 1 dX6_findValue_65 rfl ?_
            refine dn_iload (pc := 67) 2 dX6_findValue_67 rfl ?_
            refine dn_aload_n (pc := 69) r0 0 dX6_findValue_69 rfl ?_
            refine dn_getR (pc := 70) r0 lRX6_14 dX6_findValue_70 (fun v11 => ?_)
            refine dn_iconst (pc := 73) (v := 0) dX6_findValue_73 rfl ?_
            refine dn_callV0Z (pc := 74) [.int s55, dnV b v11, .int 0] (some v5) kRX6_95 (mX5_matches w x b (some v5) s55 v11 0) rfl rfl (Nat.le_of_ble_eq_true rfl) ⟨(Nat.le_of_ble_eq_true rfl), (Nat.le_of_ble_eq_true rfl)⟩ ⟨rfl, rfl, (Nat.le_of_ble_eq_true rfl), (Nat.le_of_ble_eq_true rfl)⟩ dX6_findValue_74 (fun v12 => ?_)
            refine dn_ifz_eq (pc := 77) 83 dX6_findValue_77 rfl (fun _ => ?_) (fun _ => ?_)
            · refine dn_iload (pc := 80) 2 dX6_findValue_80 rfl ?_
              refine dn_leaf ?_
              exact hR55 s55 _ _ _ rfl dX6_findValue_82
            · refine dn_iinc (pc := 83) (s55 + 1) 2 dX6_findValue_83 rfl rfl (Nat.le_of_ble_eq_true rfl) (dnKp_nb 1 rfl (dn_cat b _) rfl (dnKp_of (lv2 := [(0, dnV b r0)]) [0] rfl rfl)) ?_
              refine dn_goto (pc := 86) 55 dX6_findValue_86 rfl ?_
              refine dn_leaf ?_
              exact dn_lv [2, 1, 0] rfl (hK55 (s55 + 1))
        · dsimp only [Sum.elim_inl]
          refine dn_bipush (pc := 89) (v := -9) dX6_findValue_89 rfl ?_
          exact dn_ret (Nat.le_of_ble_eq_true rfl) (Nat.le_of_ble_eq_true rfl) rfl dX6_findValue_91
    · refine dn_iconst (pc := 14) (v := -1) dX6_findValue_14 rfl ?_
      exact dn_ret (Nat.le_of_ble_eq_true rfl) (Nat.le_of_ble_eq_true rfl) rfl dX6_findValue_15
  · refine dn_iconst (pc := 14) (v := -1) dX6_findValue_14 rfl ?_
    exact dn_ret (Nat.le_of_ble_eq_true rfl) (Nat.le_of_ble_eq_true rfl) rfl dX6_findValue_15
abbrev rmX12_find : Room := { frames := 5, cells := 0, slots := 0, locals := 114 }
def fX12_find (r0 : Option Nat) (p1 : Int32) (p2 : Int32) (p3 : Int32) (p4 : Int64) : dnM Int32 :=
  dnB (dnGR r0 10 4) fun v1 =>
  dnB (dnCv v1 5 (fX6_findValue v1 p1 p2 p3 p4)) fun v2 =>
  dnB (dnCv r0 10 (fX12_tally r0 v2)) fun v3 =>
  dnP v3
abbrev jX12_find (w : dnWd) (x : dnX) (b : Nat) := dnD w x b (fun _ => True) cX12_find RX12 6 rmX12_find "find" eI
set_option maxHeartbeats 4000000 in
set_option maxRecDepth 100000 in
theorem mX12_find (w : dnWd) (x : dnX) (b : Nat) (r0 : Option Nat) (p1 : Int32) (p2 : Int32) (p3 : Int32) (p4 : Int64) : dnMt w x b yX12_find cX12_find 6 (some .int) rmX12_find eI [dnV b r0, .int p1, .int p2, .int p3, .long p4] (fX12_find r0 p1 p2 p3 p4) := by
  have hlv : lv_args 0 [dnV b r0, .int p1, .int p2, .int p3, .long p4] = [(0, dnV b r0), (1, .int p1), (2, .int p2), (3, .int p3), (4, .long p4)] := by cases r0 <;> rfl
  refine dn_mt (by decide +kernel) roI (by cases r0 <;> exact (Nat.le_of_ble_eq_true rfl)) ?_
  rw [hlv]
  refine dn_top ?_
  show jX12_find w x b 0 0 0 _ [] (dnB _ dnP)
  unfold fX12_find
  refine dn_aload_n (pc := 0) r0 0 dX12_find_0 rfl ?_
  refine dn_aload_n (pc := 1) r0 0 dX12_find_1 rfl ?_
  refine dn_getR (pc := 2) r0 lRX12_35 dX12_find_2 (fun v1 => ?_)
  refine dn_iload_n (pc := 5) 1 dX12_find_5 rfl ?_
  refine dn_iload_n (pc := 6) 2 dX12_find_6 rfl ?_
  refine dn_iload_n (pc := 7) 3 dX12_find_7 rfl ?_
  refine dn_lload (pc := 8) 4 dX12_find_8 rfl ?_
  refine dn_callV0I (pc := 10) [.int p1, .int p2, .int p3, .long p4] v1 kRX12_131 (mX6_findValue w x b v1 p1 p2 p3 p4) rfl rfl (Nat.le_of_ble_eq_true rfl) ⟨(Nat.le_of_ble_eq_true rfl), (Nat.le_of_ble_eq_true rfl)⟩ ⟨rfl, rfl, (Nat.le_of_ble_eq_true rfl), (Nat.le_of_ble_eq_true rfl)⟩ dX12_find_10 (fun v2 => ?_)
  refine dn_callV0I (pc := 13) [.int v2] r0 kRX12_91 (mX12_tally w x b r0 v2) rfl rfl (Nat.le_of_ble_eq_true rfl) ⟨(Nat.le_of_ble_eq_true rfl), (Nat.le_of_ble_eq_true rfl)⟩ ⟨rfl, rfl, (Nat.le_of_ble_eq_true rfl), (Nat.le_of_ble_eq_true rfl)⟩ dX12_find_13 (fun v3 => ?_)
  exact dn_ret (Nat.le_of_ble_eq_true rfl) (Nat.le_of_ble_eq_true rfl) rfl dX12_find_16
