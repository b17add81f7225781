abbrev rmX9_rowOfNewGrid : Room := { frames := 3, cells := 0, slots := 0, locals := 69 }
def fX9_rowOfNewGrid (r0 : Option Nat) (p1 : Int32) (p2 : Int32) (p3 : Int32) : dnM (Option Nat) :=
  dnB (dnCv r0 7 (fX9_freshRow r0 p2 p3)) fun v1 =>
  dnB (dnCv r0 7 (fX9_place r0 4 p1 v1)) fun _ =>
  dnP v1
abbrev jX9_rowOfNewGrid (w : dnWd) (x : dnX) (b : Nat) := dnD w x b (fun _ => True) cX9_rowOfNewGrid RX9 5 rmX9_rowOfNewGrid "rowOfNewGrid" (eR b)
set_option maxHeartbeats 4000000 in
set_option maxRecDepth 100000 in
theorem mX9_rowOfNewGrid (w : dnWd) (x : dnX) (b : Nat) (r0 : Option Nat) (p1 : Int32) (p2 : Int32) (p3 : Int32) : dnMt w x b yX9_rowOfNewGrid cX9_rowOfNewGrid 5 (some (.object "KindGrids$Row")) rmX9_rowOfNewGrid (eR b) [dnV b r0, .int p1, .int p2, .int p3] (fX9_rowOfNewGrid r0 p1 p2 p3) := by
  have hlv : lv_args 0 [dnV b r0, .int p1, .int p2, .int p3] = [(0, dnV b r0), (1, .int p1), (2, .int p2), (3, .int p3)] := by cases r0 <;> rfl
  refine dn_mt (by decide +kernel) roR (by cases r0 <;> exact (Nat.le_of_ble_eq_true rfl)) ?_
  rw [hlv]
  refine dn_top ?_
  show jX9_rowOfNewGrid w x b 0 0 0 _ [] (dnB _ dnP)
  unfold fX9_rowOfNewGrid
  refine dn_aload_n (pc := 0) r0 0 dX9_rowOfNewGrid_0 rfl ?_
  refine dn_iload_n (pc := 1) 2 dX9_rowOfNewGrid_1 rfl ?_
  refine dn_iload_n (pc := 2) 3 dX9_rowOfNewGrid_2 rfl ?_
  refine dn_callV0R (pc := 3) [.int p2, .int p3] r0 kRX9_70 (mX9_freshRow w x b r0 p2 p3) rfl rfl (Nat.le_of_ble_eq_true rfl) ⟨(Nat.le_of_ble_eq_true rfl), (Nat.le_of_ble_eq_true rfl)⟩ ⟨rfl, rfl, (Nat.le_of_ble_eq_true rfl), (Nat.le_of_ble_eq_true rfl)⟩ dX9_rowOfNewGrid_3 (fun v1 => ?_)
  refine dn_astore (pc := 6) v1 dX9_rowOfNewGrid_6 (Nat.le_of_ble_eq_true rfl) (dnKp_of (lv2 := [(0, dnV b r0), (1, .int p1)]) [0, 1] rfl rfl) ?_
  refine dn_aload_n (pc := 8) r0 1 dX9_rowOfNewGrid_8 rfl ?_
  refine dn_iconst (pc := 9) (v := 4) dX9_rowOfNewGrid_9 rfl ?_
  refine dn_iload_n (pc := 10) 2 dX9_rowOfNewGrid_10 rfl ?_
  refine dn_aload (pc := 11) v1 0 dX9_rowOfNewGrid_11 rfl ?_
  refine dn_callV0U (pc := 13) [.int 4, .int p1, dnV b v1] r0 kRX9_74 (mX9_place w x b r0 4 p1 v1) rfl rfl (Nat.le_of_ble_eq_true rfl) ⟨(Nat.le_of_ble_eq_true rfl), (Nat.le_of_ble_eq_true rfl)⟩ ⟨rfl, rfl, (Nat.le_of_ble_eq_true rfl), (Nat.le_of_ble_eq_true rfl)⟩ dX9_rowOfNewGrid_13 (fun _ => ?_)
  refine dn_aload (pc := 16) v1 0 dX9_rowOfNewGrid_16 rfl ?_
  exact dn_ret (Nat.le_of_ble_eq_true rfl) (Nat.le_of_ble_eq_true rfl) rfl (dn_raR dX9_rowOfNewGrid_18)
abbrev rmX9_startGrid : Room := { frames := 0, cells := 0, slots := 0, locals := 0 }
def fX9_startGrid (r0 : Option Nat) (p1 : Int32) : dnM Unit :=
  dnB (dnGR r0 7 0) fun v1 =>
  dnB (dnTI v1 100 4 p1) fun _ =>
  dnP ()
abbrev jX9_startGrid (w : dnWd) (x : dnX) (b : Nat) := dnD w x b (fun _ => True) cX9_startGrid RX9 2 rmX9_startGrid "startGrid" eU
set_option maxHeartbeats 4000000 in
set_option maxRecDepth 100000 in
theorem mX9_startGrid (w : dnWd) (x : dnX) (b : Nat) (r0 : Option Nat) (p1 : Int32) : dnMt w x b yX9_startGrid cX9_startGrid 2 none rmX9_startGrid eU [dnV b r0, .int p1] (fX9_startGrid r0 p1) := by
  have hlv : lv_args 0 [dnV b r0, .int p1] = [(0, dnV b r0), (1, .int p1)] := by cases r0 <;> rfl
  refine dn_mt (by decide +kernel) roU (by cases r0 <;> exact (Nat.le_of_ble_eq_true rfl)) ?_
  rw [hlv]
  refine dn_top ?_
  show jX9_startGrid w x b 0 0 0 _ [] (dnB _ dnP)
  unfold fX9_startGrid
  refine dn_aload_n (pc := 0) r0 0 dX9_startGrid_0 rfl ?_
  refine dn_getR (pc := 1) r0 lRX9_9 dX9_startGrid_1 (fun v1 => ?_)
  refine dn_iconst (pc := 4) (v := 4) dX9_startGrid_4 rfl ?_
  refine dn_iload_n (pc := 5) 1 dX9_startGrid_5 rfl ?_
  refine dn_iast (pc := 6) v1 dX9_startGrid_6 ?_
  exact dn_ret (Nat.le_of_ble_eq_true rfl) (Nat.le_of_ble_eq_true rfl) rfl dX9_startGrid_7
abbrev rmX11_dealOut : Room := { frames := 4, cells := 0, slots := 0, locals := 93 }
def fX11_dealOut_b89 (c0 : Option Nat) (c3 : Int32) (c4 : Int32) (c5 : Option Nat) (c6 : Int32) (s89 : Int32) : dnM ((Int32) ⊕ (Unit)) :=
  if c6 ≤ s89 then
  (dnP (.inr ()))
  else
  (dnB (dnGI c5 4 2) fun v11 =>
  dnB (fJ9_min_7cf53 c3 (v11 - (s89 * c3))) fun v12 =>
  dnB (dnGR c0 9 0) fun v13 =>
  dnB (dnGI c5 4 1) fun v14 =>
  dnB (dnCv v13 7 (fX9_rowOfNewGrid v13 s89 v14 v12)) fun v15 =>
  dnB (fX6_append v15 0 c5 (s89 * c3) v12) fun _ =>
  dnP (.inl (s89 + 1)))
def fX11_dealOut (r0 : Option Nat) (p1 : Int32) (p2 : Int32) (p3 : Int32) (p4 : Int32) : dnM Int32 :=
  dnB (fX12_isGrid p1) fun v1 =>
  if v1 = true then
  (dnB (fX12_isGrid p4) fun v2 =>
  if v2 = true then
  (if p3 < 1 then
  (dnP (-1))
  else
  (if p3 ≤ 12 then
  (dnB (dnGR r0 9 0) fun v3 =>
  dnB (dnCv v3 7 (fX9_rowAt v3 p1 p2)) fun v4 =>
  v4.elim
  (dnB (dnGR r0 9 0) fun v6 =>
  dnB (dnCv v6 7 (fX9_rowFault v6 p1 p2)) fun v7 =>
  dnP v7)
  (fun v5 => dnB (dnGI (some v5) 4 2) fun v8 =>
  dnB (dnNz p3) fun _ =>
  if (((v8 + p3) - 1) / p3) ≤ 6 then
  (dnB (dnGR r0 9 0) fun v9 =>
  dnB (dnCv v9 7 (fX9_startGrid v9 (((v8 + p3) - 1) / p3))) fun _ =>
  dnB (dnIt 1000 (fX11_dealOut_b89 r0 p3 p4 (some v5) (((v8 + p3) - 1) / p3)) 0) fun q89 =>
  dnB (dnGR r0 9 0) fun v17 =>
  dnB (dnCv v17 7 (fX9_finishGrid v17 p4)) fun v18 =>
  dnP v18)
  else
  (dnP (-10))))
  else
  (dnP (-1))))
  else
  (dnP (-1)))
  else
  (dnP (-1))
abbrev jX11_dealOut (w : dnWd) (x : dnX) (b : Nat) := dnD w x b (fun _ => True) cX11_dealOut RX11 9 rmX11_dealOut "dealOut" eI
set_option maxHeartbeats 4000000 in
set_option maxRecDepth 100000 in
theorem mX11_dealOut (w : dnWd) (x : dnX) (b : Nat) (r0 : Option Nat) (p1 : Int32) (p2 : Int32) (p3 : Int32) (p4 : Int32) : dnMt w x b yX11_dealOut cX11_dealOut 9 (some .int) rmX11_dealOut eI [dnV b r0, .int p1, .int p2, .int p3, .int p4] (fX11_dealOut r0 p1 p2 p3 p4) := by
  have hlv : lv_args 0 [dnV b r0, .int p1, .int p2, .int p3, .int p4] = [(0, dnV b r0), (1, .int p1), (2, .int p2), (3, .int p3), (4, .int p4)] := by cases r0 <;> rfl
  refine dn_mt (by decide +kernel) roI (by cases r0 <;> exact (Nat.le_of_ble_eq_true rfl)) ?_
  rw [hlv]
  refine dn_top ?_
  show jX11_dealOut w x b 0 0 0 _ [] (dnB _ dnP)
  unfold fX11_dealOut
  refine dn_iload_n (pc := 0) 1 dX11_dealOut_0 rfl ?_
  refine dn_callSN0Z (pc := 1) [.int p1]  kRX11_19 (mX12_isGrid w x b p1) rfl rfl (Nat.le_of_ble_eq_true rfl) ⟨(Nat.le_of_ble_eq_true rfl), (Nat.le_of_ble_eq_true rfl)⟩ ⟨rfl, rfl, (Nat.le_of_ble_eq_true rfl), (Nat.le_of_ble_eq_true rfl)⟩ dX11_dealOut_1 (fun v1 => ?_)
  refine dn_ifz_eq (pc := 4) 26 dX11_dealOut_4 rfl (fun _ => ?_) (fun _ => ?_)
  · refine dn_iload (pc := 7) 4 dX11_dealOut_7 rfl ?_
    refine dn_callSN0Z (pc := 9) [.int p4]  kRX11_19 (mX12_isGrid w x b p4) rfl rfl (Nat.le_of_ble_eq_true rfl) ⟨(Nat.le_of_ble_eq_true rfl), (Nat.le_of_ble_eq_true rfl)⟩ ⟨rfl, rfl, (Nat.le_of_ble_eq_true rfl), (Nat.le_of_ble_eq_true rfl)⟩ dX11_dealOut_9 (fun v2 => ?_)
    refine dn_ifz_eq (pc := 12) 26 dX11_dealOut_12 rfl (fun _ => ?_) (fun _ => ?_)
    · refine dn_iload_n (pc := 15) 3 dX11_dealOut_15 rfl ?_
      refine dn_iconst (pc := 16) (v := 1) dX11_dealOut_16 rfl ?_
      refine dn_icmp_lt (pc := 17) 26 dX11_dealOut_17 rfl (fun _ => ?_) (fun _ => ?_)
      · refine dn_iconst (pc := 26) (v := -1) dX11_dealOut_26 rfl ?_
        exact dn_ret (Nat.le_of_ble_eq_true rfl) (Nat.le_of_ble_eq_true rfl) rfl dX11_dealOut_27
      · refine dn_iload_n (pc := 20) 3 dX11_dealOut_20 rfl ?_
        refine dn_bipush (pc := 21) (v := 12) dX11_dealOut_21 rfl ?_
        refine dn_icmp_le (pc := 23) 28 dX11_dealOut_23 rfl (fun _ => ?_) (fun _ => ?_)
        · refine dn_aload_n (pc := 28) r0 0 dX11_dealOut_28 rfl ?_
          refine dn_getR (pc := 29) r0 lRX11_9 dX11_dealOut_29 (fun v3 => ?_)
          refine dn_iload_n (pc := 32) 1 dX11_dealOut_32 rfl ?_
          refine dn_iload_n (pc := 33) 2 dX11_dealOut_33 rfl ?_
          refine dn_callV0R (pc := 34) [.int p1, .int p2] v3 kRX11_37 (mX9_rowAt w x b v3 p1 p2) rfl rfl (Nat.le_of_ble_eq_true rfl) ⟨(Nat.le_of_ble_eq_true rfl), (Nat.le_of_ble_eq_true rfl)⟩ ⟨rfl, rfl, (Nat.le_of_ble_eq_true rfl), (Nat.le_of_ble_eq_true rfl)⟩ dX11_dealOut_34 (fun v4 => ?_)
          refine dn_astore (pc := 37) v4 dX11_dealOut_37 (Nat.le_of_ble_eq_true rfl) (dnKp_nb 4 rfl rfl rfl (dnKp_of (lv2 := [(0, dnV b r0), (1, .int p1), (2, .int p2), (3, .int p3)]) [0, 1, 2, 3] rfl rfl)) ?_
          refine dn_aload (pc := 39) v4 0 dX11_dealOut_39 rfl ?_
          refine dn_ifnonnull (pc := 41) v4 54 dX11_dealOut_41 rfl (fun e_ => ?_) (fun v5 e_ => ?_)
          · subst e_
            refine dn_aload_n (pc := 44) r0 2 dX11_dealOut_44 rfl ?_
            refine dn_getR (pc := 45) r0 lRX11_9 dX11_dealOut_45 (fun v6 => ?_)
            refine dn_iload_n (pc := 48) 3 dX11_dealOut_48 rfl ?_
            refine dn_iload_n (pc := 49) 4 dX11_dealOut_49 rfl ?_
            refine dn_callV0I (pc := 50) [.int p1, .int p2] v6 kRX11_66 (mX9_rowFault w x b v6 p1 p2) rfl rfl (Nat.le_of_ble_eq_true rfl) ⟨(Nat.le_of_ble_eq_true rfl), (Nat.le_of_ble_eq_true rfl)⟩ ⟨rfl, rfl, (Nat.le_of_ble_eq_true rfl), (Nat.le_of_ble_eq_true rfl)⟩ dX11_dealOut_50 (fun v7 => ?_)
            exact dn_ret (Nat.le_of_ble_eq_true rfl) (Nat.le_of_ble_eq_true rfl) rfl dX11_dealOut_53
          · subst e_
            refine dn_aload (pc := 54) (some v5) 0 dX11_dealOut_54 rfl ?_
            refine dn_getI (pc := 56) (some v5) lRX11_41 dX11_dealOut_56 (fun v8 => ?_)
            refine dn_iload_n (pc := 59) 5 dX11_dealOut_59 rfl ?_
            refine dn_iadd (pc := 60) dX11_dealOut_60 ?_
            refine dn_iconst (pc := 61) (v := 1) dX11_dealOut_61 rfl ?_
            refine dn_isub (pc := 62) dX11_dealOut_62 ?_
            refine dn_iload_n (pc := 63) 5 dX11_dealOut_63 rfl ?_
            refine dn_idiv (pc := 64) dX11_dealOut_64 ?_
            refine dn_istore (pc := 65) dX11_dealOut_65 (Nat.le_of_ble_eq_true rfl) (dnKp_nb 0 rfl (dn_cat b _) rfl (dnKp_of (lv2 := [(4, .int p4), (0, dnV b r0), (3, .int p3)]) [1, 2, 5] rfl rfl)) ?_
            refine dn_iload (pc := 67) 0 dX11_dealOut_67 rfl ?_
            refine dn_bipush (pc := 69) (v := 6) dX11_dealOut_69 rfl ?_
            refine dn_icmp_le (pc := 71) 77 dX11_dealOut_71 rfl (fun _ => ?_) (fun _ => ?_)
            · refine dn_aload_n (pc := 77) r0 3 dX11_dealOut_77 rfl ?_
              refine dn_getR (pc := 78) r0 lRX11_9 dX11_dealOut_78 (fun v9 => ?_)
              refine dn_iload (pc := 81) 0 dX11_dealOut_81 rfl ?_
              refine dn_callV0U (pc := 83) [.int (((v8 + p3) - 1) / p3)] v9 kRX11_69 (mX9_startGrid w x b v9 (((v8 + p3) - 1) / p3)) rfl rfl (Nat.le_of_ble_eq_true rfl) ⟨(Nat.le_of_ble_eq_true rfl), (Nat.le_of_ble_eq_true rfl)⟩ ⟨rfl, rfl, (Nat.le_of_ble_eq_true rfl), (Nat.le_of_ble_eq_true rfl)⟩ dX11_dealOut_83 (fun _ => ?_)
              refine dn_iconst (pc := 86) (v := 0) dX11_dealOut_86 rfl ?_
              refine dn_istore (pc := 87) dX11_dealOut_87 (Nat.le_of_ble_eq_true rfl) (dnKp_nb 0 rfl rfl rfl (dnKp_of (lv2 := [(5, dnV b (some v5)), (4, .int p4), (0, dnV b r0), (3, .int p3)]) [1, 2, 3, 4] rfl rfl)) ?_
              refine dn_assoc ?_
              refine dn_lv [4, 5, 3, 2, 1, 0] (lv2 := (fun s => [(0, dnV b r0), (3, .int p3), (4, .int p4), (5, dnV b (some v5)), (6, .int (((v8 + p3) - 1) / p3)), (7, .int s)]) 0) rfl ?_
              refine dn_loopE (pc := 89) (body := fX11_dealOut_b89 r0 p3 p4 (some v5) (((v8 + p3) - 1) / p3)) 146 (fun s => [(0, dnV b r0), (3, .int p3), (4, .int p4), (5, dnV b (some v5)), (6, .int (((v8 + p3) - 1) / p3)), (7, .int s)]) (fun q => [(0, dnV b r0), (4, .int p4)]) (fun s89 K89 E89 hK89 hE89 => ?_) (fun q89 => ?_) 1000 0
              · unfold fX11_dealOut_b89
                refine dn_iload (pc := 89) 5 dX11_dealOut_89 rfl ?_
                refine dn_iload (pc := 91) 4 dX11_dealOut_91 rfl ?_
                refine dn_icmp_ge (pc := 93) 146 dX11_dealOut_93 rfl (fun _ => ?_) (fun _ => ?_)
                · refine dn_leaf ?_
                  exact dn_lv [0, 2] rfl (hE89 ())
                · refine dn_iload_n (pc := 96) 1 dX11_dealOut_96 rfl ?_
                  refine dn_aload (pc := 97) (some v5) 3 dX11_dealOut_97 rfl ?_
                  refine dn_getI (pc := 99) (some v5) lRX11_41 dX11_dealOut_99 (fun v11 => ?_)
                  refine dn_iload (pc := 102) 5 dX11_dealOut_102 rfl ?_
                  refine dn_iload_n (pc := 104) 1 dX11_dealOut_104 rfl ?_
                  refine dn_imul (pc := 105) dX11_dealOut_105 ?_
                  refine dn_isub (pc := 106) dX11_dealOut_106 ?_
                  refine dn_callS0I (pc := 107) [.int p3, .int (v11 - (s89 * p3))]  kRX11_73 (mJ9_min_7cf53 w x b p3 (v11 - (s89 * p3))) rfl rfl (Nat.le_of_ble_eq_true rfl) ⟨(Nat.le_of_ble_eq_true rfl), (Nat.le_of_ble_eq_true rfl)⟩ ⟨rfl, rfl, (Nat.le_of_ble_eq_true rfl), (Nat.le_of_ble_eq_true rfl)⟩ dX11_dealOut_107 (fun v12 => ?_)
                  refine dn_istore (pc := 110) dX11_dealOut_110 (Nat.le_of_ble_eq_true rfl) (dnKp_nb 5 rfl rfl rfl (dnKp_of (lv2 := [(0, dnV b r0), (3, .int p3), (4, .int p4), (5, dnV b (some v5)), (6, .int (((v8 + p3) - 1) / p3))]) [0, 1, 2, 3, 4] rfl rfl)) ?_
                  refine dn_aload_n (pc := 112) r0 2 dX11_dealOut_112 rfl ?_
                  refine dn_getR (pc := 113) r0 lRX11_9 dX11_dealOut_113 (fun v13 => ?_)
                  refine dn_iload (pc := 116) 1 dX11_dealOut_116 rfl ?_
                  refine dn_aload (pc := 118) (some v5) 5 dX11_dealOut_118 rfl ?_
                  refine dn_getI (pc := 120) (some v5) lRX11_47 dX11_dealOut_120 (fun v14 => ?_)
                  refine dn_iload (pc := 123) 0 dX11_dealOut_123 rfl ?_
                  refine dn_callV0R (pc := 125) [.int s89, .int v14, .int v12] v13 kRX11_78 (mX9_rowOfNewGrid w x b v13 s89 v14 v12) rfl rfl (Nat.le_of_ble_eq_true rfl) ⟨(Nat.le_of_ble_eq_true rfl), (Nat.le_of_ble_eq_true rfl)⟩ ⟨rfl, rfl, (Nat.le_of_ble_eq_true rfl), (Nat.le_of_ble_eq_true rfl)⟩ dX11_dealOut_125 (fun v15 => ?_)
                  refine dn_iconst (pc := 128) (v := 0) dX11_dealOut_128 rfl ?_
                  refine dn_aload (pc := 129) (some v5) 5 dX11_dealOut_129 rfl ?_
                  refine dn_iload (pc := 131) 1 dX11_dealOut_131 rfl ?_
                  refine dn_iload_n (pc := 133) 3 dX11_dealOut_133 rfl ?_
                  refine dn_imul (pc := 134) dX11_dealOut_134 ?_
                  refine dn_iload (pc := 135) 0 dX11_dealOut_135 rfl ?_
                  refine dn_callS0U (pc := 137) [dnV b v15, .int 0, dnV b (some v5), .int (s89 * p3), .int v12]  kRX11_56 (mX6_append w x b v15 0 (some v5) (s89 * p3) v12) rfl rfl (Nat.le_of_ble_eq_true rfl) ⟨(Nat.le_of_ble_eq_true rfl), (Nat.le_of_ble_eq_true rfl)⟩ ⟨rfl, rfl, (Nat.le_of_ble_eq_true rfl), (Nat.le_of_ble_eq_true rfl)⟩ dX11_dealOut_137 (fun _ => ?_)
                  refine dn_iinc (pc := 140) (s89 + 1) 1 dX11_dealOut_140 rfl rfl (Nat.le_of_ble_eq_true rfl) (dnKp_nb 6 rfl rfl rfl (dnKp_of (lv2 := [(0, dnV b r0), (3, .int p3), (4, .int p4), (5, dnV b (some v5))]) [2, 3, 4, 5] rfl rfl)) ?_
                  refine dn_goto (pc := 143) 89 dX11_dealOut_143 rfl ?_
                  refine dn_leaf ?_
                  exact dn_lv [2, 3, 4, 5, 1, 0] rfl (hK89 (s89 + 1))
              · refine dn_aload_n (pc := 146) r0 0 dX11_dealOut_146 rfl ?_
                refine dn_getR (pc := 147) r0 lRX11_9 dX11_dealOut_147 (fun v17 => ?_)
                refine dn_iload (pc := 150) 1 dX11_dealOut_150 rfl ?_
                refine dn_callV0I (pc := 152) [.int p4] v17 kRX11_82 (mX9_finishGrid w x b v17 p4) rfl rfl (Nat.le_of_ble_eq_true rfl) ⟨(Nat.le_of_ble_eq_true rfl), (Nat.le_of_ble_eq_true rfl)⟩ ⟨rfl, rfl, (Nat.le_of_ble_eq_true rfl), (Nat.le_of_ble_eq_true rfl)⟩ dX11_dealOut_152 (fun v18 => ?_)
                exact dn_ret (Nat.le_of_ble_eq_true rfl) (Nat.le_of_ble_eq_true rfl) rfl dX11_dealOut_155
            · refine dn_bipush (pc := 74) (v := -10) dX11_dealOut_74 rfl ?_
              exact dn_ret (Nat.le_of_ble_eq_true rfl) (Nat.le_of_ble_eq_true rfl) rfl dX11_dealOut_76
        · refine dn_iconst (pc := 26) (v := -1) dX11_dealOut_26 rfl ?_
          exact dn_ret (Nat.le_of_ble_eq_true rfl) (Nat.le_of_ble_eq_true rfl) rfl dX11_dealOut_27
    · refine dn_iconst (pc := 26) (v := -1) dX11_dealOut_26 rfl ?_
      exact dn_ret (Nat.le_of_ble_eq_true rfl) (Nat.le_of_ble_eq_true rfl) rfl dX11_dealOut_27
  · refine dn_iconst (pc := 26) (v := -1) dX11_dealOut_26 rfl ?_
    exact dn_ret (Nat.le_of_ble_eq_true rfl) (Nat.le_of_ble_eq_true rfl) rfl dX11_dealOut_27
abbrev rmX12_leastKind : Room := { frames := 0, cells := 0, slots := 0, locals := 0 }
def fX12_leastKind_b2 (c0 : Int32) (s2 : Int32) : dnM ((Int32) ⊕ ((Unit) ⊕ Int32)) :=
  if 12 ≤ s2 then
  (dnP (.inr (.inl ())))
  else
  (if ¬ c0 = (1 <<< (s2 &&& 31)) then
  (dnP (.inl (s2 + 1)))
  else
  (dnP (.inr (.inr s2))))
def fX12_leastKind_b32 (c0 : Int32) (s32 : Int32) : dnM ((Int32) ⊕ ((Unit) ⊕ Int32)) :=
  if 8 ≤ s32 then
  (dnP (.inr (.inl ())))
  else
  (dnB (dnXT s32) fun v1 =>
  if ¬ (v1 &&& c0) = c0 then
  (dnP (.inl (s32 + 1)))
  else
  (dnP (.inr (.inr s32))))
def fX12_leastKind (p0 : Int32) : dnM Int32 :=
  dnB (dnIt 1000 (fX12_leastKind_b2 p0) 0) fun q_ => q_.elim (fun q2 => if ¬ p0 = 0 then
  (dnB (dnIt 1000 (fX12_leastKind_b32 p0) 0) fun q_ => q_.elim (fun q32 => dnP 8) (fun v_ => dnP v_))
  else
  (dnP 8)) (fun v_ => dnP v_)
abbrev jX12_leastKind (w : dnWd) (x : dnX) (b : Nat) := dnD w x b (fun _ => True) cX12_leastKind RX12 2 rmX12_leastKind "leastKind" eI
set_option maxHeartbeats 4000000 in
set_option maxRecDepth 100000 in
theorem mX12_leastKind (w : dnWd) (x : dnX) (b : Nat) (p0 : Int32) : dnMt w x b yX12_leastKind cX12_leastKind 2 (some .int) rmX12_leastKind eI [.int p0] (fX12_leastKind p0) := by
  have hlv : lv_args 0 [.int p0] = [(0, .int p0)] := by rfl
  refine dn_mt (by decide +kernel) roI (by exact (Nat.le_of_ble_eq_true rfl)) ?_
  rw [hlv]
  refine dn_top ?_
  show jX12_leastKind w x b 0 0 0 _ [] (dnB _ dnP)
  unfold fX12_leastKind
  refine dn_iconst (pc := 0) (v := 0) dX12_leastKind_0 rfl ?_
  refine dn_istore_n (pc := 1) dX12_leastKind_1 (Nat.le_of_ble_eq_true rfl) (dnKp_nb 0 rfl rfl rfl (dnKp_of (lv2 := []) [] rfl rfl)) ?_
  refine dn_assoc ?_
  refine dn_lv [1, 0] (lv2 := (fun s => [(0, .int p0), (1, .int s)]) 0) rfl ?_
  refine dn_loopR (pc := 2) (body := fX12_leastKind_b2 p0) 23 (fun s => [(0, .int p0), (1, .int s)]) (fun q => [(0, .int p0)]) (fun s2 K2 E2 hK2 hE2 hR2 => ?_) (dn_rt (Nat.le_of_ble_eq_true rfl) (Nat.le_of_ble_eq_true rfl) (fun _ => rfl)) (fun q2 => ?_) 1000 0
  · unfold fX12_leastKind_b2
    refine dn_iload_n (pc := 2) 1 dX12_leastKind_2 rfl ?_
    refine dn_bipush (pc := 3) (v := 12) dX12_leastKind_3 rfl ?_
    refine dn_icmp_ge (pc := 5) 23 dX12_leastKind_5 rfl (fun _ => ?_) (fun _ => ?_)
    · refine dn_leaf ?_
      exact dn_lv [0] rfl (hE2 ())
    · refine dn_iload_n (pc := 8) 0 dX12_leastKind_8 rfl ?_
      refine dn_iconst (pc := 9) (v := 1) dX12_leastKind_9 rfl ?_
      refine dn_iload_n (pc := 10) 1 dX12_leastKind_10 rfl ?_
      refine dn_ishl (pc := 11) dX12_leastKind_11 ?_
      refine dn_icmp_ne (pc := 12) 17 dX12_leastKind_12 rfl (fun _ => ?_) (fun _ => ?_)
      · refine dn_iinc (pc := 17) (s2 + 1) 1 dX12_leastKind_17 rfl rfl (Nat.le_of_ble_eq_true rfl) (dnKp_nb 0 rfl rfl rfl (dnKp_of (lv2 := []) [] rfl rfl)) ?_
        refine dn_goto (pc := 20) 2 dX12_leastKind_20 rfl ?_
        refine dn_leaf ?_
        exact dn_lv [1, 0] rfl (hK2 (s2 + 1))
      · refine dn_iload_n (pc := 15) 1 dX12_leastKind_15 rfl ?_
        refine dn_leaf ?_
        exact hR2 s2 _ _ _ rfl dX12_leastKind_16
  · dsimp only [Sum.elim_inl]
    refine dn_iload_n (pc := 23) 0 dX12_leastKind_23 rfl ?_
    refine dn_if_ne (pc := 24) 30 dX12_leastKind_24 rfl (fun _ => ?_) (fun _ => ?_)
    · refine dn_iconst (pc := 30) (v := 0) dX12_leastKind_30 rfl ?_
      refine dn_istore_n (pc := 31) dX12_leastKind_31 (Nat.le_of_ble_eq_true rfl) (dnKp_nb 0 rfl rfl rfl (dnKp_of (lv2 := []) [] rfl rfl)) ?_
      refine dn_assoc ?_
      refine dn_lv [1, 0] (lv2 := (fun s => [(0, .int p0), (1, .int s)]) 0) rfl ?_
      refine dn_loopR (pc := 32) (body := fX12_leastKind_b32 p0) 57 (fun s => [(0, .int p0), (1, .int s)]) (fun q => []) (fun s32 K32 E32 hK32 hE32 hR32 => ?_) (dn_rt (Nat.le_of_ble_eq_true rfl) (Nat.le_of_ble_eq_true rfl) (fun _ => rfl)) (fun q32 => ?_) 1000 0
      · unfold fX12_leastKind_b32
        refine dn_iload_n (pc := 32) 1 dX12_leastKind_32 rfl ?_
        refine dn_bipush (pc := 33) (v := 8) dX12_leastKind_33 rfl ?_
        refine dn_icmp_ge (pc := 35) 57 dX12_leastKind_35 rfl (fun _ => ?_) (fun _ => ?_)
        · refine dn_leaf ?_
          exact dn_lv [] rfl (hE32 ())
        · refine dn_getTK (pc := 38) kRX12_299 dX12_leastKind_38 ?_
          refine dn_iload_n (pc := 41) 1 dX12_leastKind_41 rfl ?_
          refine dn_ialdTK (pc := 42) dX12_leastKind_42 (fun v1 => ?_)
          refine dn_iload_n (pc := 43) 0 dX12_leastKind_43 rfl ?_
          refine dn_iand (pc := 44) dX12_leastKind_44 ?_
          refine dn_iload_n (pc := 45) 0 dX12_leastKind_45 rfl ?_
          refine dn_icmp_ne (pc := 46) 51 dX12_leastKind_46 rfl (fun _ => ?_) (fun _ => ?_)
          · refine dn_iinc (pc := 51) (s32 + 1) 1 dX12_leastKind_51 rfl rfl (Nat.le_of_ble_eq_true rfl) (dnKp_nb 0 rfl rfl rfl (dnKp_of (lv2 := []) [] rfl rfl)) ?_
            refine dn_goto (pc := 54) 32 dX12_leastKind_54 rfl ?_
            refine dn_leaf ?_
            exact dn_lv [1, 0] rfl (hK32 (s32 + 1))
          · refine dn_iload_n (pc := 49) 1 dX12_leastKind_49 rfl ?_
            refine dn_leaf ?_
            exact hR32 s32 _ _ _ rfl dX12_leastKind_50
      · dsimp only [Sum.elim_inl]
        refine dn_bipush (pc := 57) (v := 8) dX12_leastKind_57 rfl ?_
        exact dn_ret (Nat.le_of_ble_eq_true rfl) (Nat.le_of_ble_eq_true rfl) rfl dX12_leastKind_59
    · refine dn_bipush (pc := 27) (v := 8) dX12_leastKind_27 rfl ?_
      exact dn_ret (Nat.le_of_ble_eq_true rfl) (Nat.le_of_ble_eq_true rfl) rfl dX12_leastKind_29
abbrev rmX11_flatten : Room := { frames := 4, cells := 0, slots := 0, locals := 90 }
def fX11_flatten_j112 (l0 : Option Nat) (l1 : Int32) (l2 : Int32) (l3 : Int32) (l5 : Int32) (l6 : Int32) (l7 : Int32) : dnM ((Int32 × Int32 × Int32) ⊕ (Int32 × Int32)) :=
  dnP (.inl (l5, l6, (l7 + 1)))
def fX11_flatten_b59 (c0 : Option Nat) (c1 : Int32) (c2 : Int32) (c3 : Int32) (s59 : Int32 × Int32 × Int32) : dnM ((Int32 × Int32 × Int32) ⊕ (Int32 × Int32)) :=
  dnB (dnGR c0 9 0) fun v1 =>
  dnB (dnGR v1 7 0) fun v2 =>
  dnB (dnAI v2 100 c1) fun v3 =>
  if v3 ≤ s59.2.2 then
  (dnP (.inr (s59.1, s59.2.1)))
  else
  (dnB (dnGR c0 9 0) fun v4 =>
  dnB (dnCv v4 7 (fX9_rowAt v4 c1 s59.2.2)) fun v5 =>
  v5.elim
  (fX11_flatten_j112 c0 c1 c2 c3 s59.1 s59.2.1 s59.2.2)
  (fun v6 => dnB (dnGI (some v6) 4 2) fun v7 =>
  dnB (dnGI (some v6) 4 1) fun v8 =>
  fX11_flatten_j112 c0 c1 c2 c3 (s59.1 + v7) (s59.2.1 ||| (1 <<< (v8 &&& 31))) s59.2.2))
def fX11_flatten_j206 (l0 : Option Nat) (l1 : Int32) (l2 : Int32) (l3 : Int32) (l5 : Int32) (l7 : Option Nat) (l8 : Int32) (l9 : Int32) : dnM ((Int32 × Int32) ⊕ (Unit)) :=
  dnP (.inl (l8, (l9 + 1)))
def fX11_flatten_b150 (c0 : Option Nat) (c1 : Int32) (c2 : Int32) (c3 : Int32) (c5 : Int32) (c7 : Option Nat) (s150 : Int32 × Int32) : dnM ((Int32 × Int32) ⊕ (Unit)) :=
  dnB (dnGR c0 9 0) fun v12 =>
  dnB (dnGR v12 7 0) fun v13 =>
  dnB (dnAI v13 100 c1) fun v14 =>
  if v14 ≤ s150.2 then
  (dnP (.inr ()))
  else
  (dnB (dnGR c0 9 0) fun v15 =>
  dnB (dnCv v15 7 (fX9_rowAt v15 c1 s150.2)) fun v16 =>
  v16.elim
  (fX11_flatten_j206 c0 c1 c2 c3 c5 c7 s150.1 s150.2)
  (fun v17 => dnB (dnGI (some v17) 4 2) fun v18 =>
  dnB (fX6_append c7 s150.1 (some v17) 0 v18) fun _ =>
  dnB (dnGI (some v17) 4 2) fun v20 =>
  fX11_flatten_j206 c0 c1 c2 c3 c5 c7 (s150.1 + v20) s150.2))
def fX11_flatten_j42 (l0 : Option Nat) (l1 : Int32) (l2 : Int32) (l3 : Int32) (l4 : Int32) : dnM Int32 :=
  if 0 ≤ l4 then
  (dnB (dnIt 1000 (fX11_flatten_b59 l0 l1 l2 l3) (0, 0, 0)) fun q59 =>
  if q59.1 ≤ 12 then
  (dnB (dnGR l0 9 0) fun v9 =>
  dnB (fX12_leastKind q59.2) fun v10 =>
  dnB (dnCv v9 7 (fX9_freshRow v9 v10 q59.1)) fun v11 =>
  dnB (dnIt 1000 (fX11_flatten_b150 l0 l1 l2 l3 q59.1 v11) (0, 0)) fun q150 =>
  dnB (dnGR l0 9 0) fun v21 =>
  dnB (dnCv v21 7 (fX9_place v21 l2 l3 v11)) fun _ =>
  dnP q59.1)
  else
  (dnP (-10)))
  else
  (dnP l4)
def fX11_flatten (r0 : Option Nat) (p1 : Int32) (p2 : Int32) (p3 : Int32) : dnM Int32 :=
  dnB (fX12_isGrid p1) fun v23 =>
  if v23 = true then
  (dnB (fX12_isGrid p2) fun v24 =>
  if v24 = true then
  (dnB (dnGR r0 9 0) fun v25 =>
  dnB (dnCv v25 7 (fX9_gridFault v25 p1)) fun v26 =>
  if ¬ v26 = 0 then
  (fX11_flatten_j42 r0 p1 p2 p3 v26)
  else
  (dnB (dnGR r0 9 0) fun v27 =>
  dnB (dnCv v27 7 (fX9_placeFault v27 p2 p3)) fun v28 =>
  fX11_flatten_j42 r0 p1 p2 p3 v28))
  else
  (dnP (-1)))
  else
  (dnP (-1))
abbrev jX11_flatten (w : dnWd) (x : dnX) (b : Nat) := dnD w x b (fun _ => True) cX11_flatten RX11 11 rmX11_flatten "flatten" eI
set_option maxHeartbeats 4000000 in
set_option maxRecDepth 100000 in
theorem mX11_flatten (w : dnWd) (x : dnX) (b : Nat) (r0 : Option Nat) (p1 : Int32) (p2 : Int32) (p3 : Int32) : dnMt w x b yX11_flatten cX11_flatten 11 (some .int) rmX11_flatten eI [dnV b r0, .int p1, .int p2, .int p3] (fX11_flatten r0 p1 p2 p3) := by
  have hlv : lv_args 0 [dnV b r0, .int p1, .int p2, .int p3] = [(0, dnV b r0), (1, .int p1), (2, .int p2), (3, .int p3)] := by cases r0 <;> rfl
  refine dn_mt (by decide +kernel) roI (by cases r0 <;> exact (Nat.le_of_ble_eq_true rfl)) ?_
  rw [hlv]
  refine dn_top ?_
  show jX11_flatten w x b 0 0 0 _ [] (dnB _ dnP)
  unfold fX11_flatten
  have hj42 : ∀ (l0 : Option Nat) (l1 : Int32) (l2 : Int32) (l3 : Int32) (l4 : Int32), jX11_flatten w x b 42 0 0 [(0, dnV b l0), (1, .int l1), (2, .int l2), (3, .int l3), (4, .int l4)] [] (dnB (fX11_flatten_j42 l0 l1 l2 l3 l4) dnP) := by
    intro l0 l1 l2 l3 l4
    unfold fX11_flatten_j42
    refine dn_iload (pc := 42) 4 dX11_flatten_42 rfl ?_
    refine dn_if_ge (pc := 44) 50 dX11_flatten_44 rfl (fun _ => ?_) (fun _ => ?_)
    · refine dn_iconst (pc := 50) (v := 0) dX11_flatten_50 rfl ?_
      refine dn_istore (pc := 51) dX11_flatten_51 (Nat.le_of_ble_eq_true rfl) (dnKp_of (lv2 := [(0, dnV b l0), (1, .int l1), (2, .int l2), (3, .int l3)]) [0, 1, 2, 3] rfl rfl) ?_
      refine dn_iconst (pc := 53) (v := 0) dX11_flatten_53 rfl ?_
      refine dn_istore (pc := 54) dX11_flatten_54 (Nat.le_of_ble_eq_true rfl) (dnKp_nb 0 rfl rfl rfl (dnKp_of (lv2 := [(0, dnV b l0), (1, .int l1), (2, .int l2), (3, .int l3)]) [1, 2, 3, 4] rfl rfl)) ?_
      refine dn_iconst (pc := 56) (v := 0) dX11_flatten_56 rfl ?_
      refine dn_istore (pc := 57) dX11_flatten_57 (Nat.le_of_ble_eq_true rfl) (dnKp_nb 0 rfl rfl rfl (dnKp_of (lv2 := [(5, .int 0), (0, dnV b l0), (1, .int l1), (2, .int l2), (3, .int l3)]) [1, 2, 3, 4, 5] rfl rfl)) ?_
      refine dn_assoc ?_
      refine dn_lv [3, 4, 5, 6, 2, 1, 0] (lv2 := (fun s => [(0, dnV b l0), (1, .int l1), (2, .int l2), (3, .int l3), (5, .int s.1), (6, .int s.2.1), (7, .int s.2.2)]) (0, 0, 0)) rfl ?_
      refine dn_loopE (pc := 59) (body := fX11_flatten_b59 l0 l1 l2 l3) 118 (fun s => [(0, dnV b l0), (1, .int l1), (2, .int l2), (3, .int l3), (5, .int s.1), (6, .int s.2.1), (7, .int s.2.2)]) (fun q => [(0, dnV b l0), (1, .int l1), (2, .int l2), (3, .int l3), (5, .int q.1), (6, .int q.2)]) (fun s59 K59 E59 hK59 hE59 => ?_) (fun q59 => ?_) 1000 (0, 0, 0)
      · unfold fX11_flatten_b59
        have hj112 : ∀ (l5 : Int32) (l6 : Int32) (l7 : Int32), jX11_flatten w x b 112 0 0 [(0, dnV b l0), (1, .int l1), (2, .int l2), (3, .int l3), (5, .int l5), (6, .int l6), (7, .int l7)] [] (dnB (fX11_flatten_j112 l0 l1 l2 l3 l5 l6 l7) (dnKo K59 E59)) := by
          intro l5 l6 l7
          unfold fX11_flatten_j112
          refine dn_iinc (pc := 112) (l7 + 1) 6 dX11_flatten_112 rfl rfl (Nat.le_of_ble_eq_true rfl) (dnKp_nb 5 rfl rfl rfl (dnKp_of (lv2 := [(0, dnV b l0), (1, .int l1), (2, .int l2), (3, .int l3), (5, .int l5)]) [0, 1, 2, 3, 4] rfl rfl)) ?_
          refine dn_goto (pc := 115) 59 dX11_flatten_115 rfl ?_
          refine dn_leaf ?_
          exact dn_lv [2, 3, 4, 5, 6, 1, 0] rfl (hK59 (l5, l6, (l7 + 1)))
        refine dn_iload (pc := 59) 6 dX11_flatten_59 rfl ?_
        refine dn_aload_n (pc := 61) l0 0 dX11_flatten_61 rfl ?_
        refine dn_getR (pc := 62) l0 lRX11_9 dX11_flatten_62 (fun v1 => ?_)
        refine dn_getR (pc := 65) v1 lRX11_33 dX11_flatten_65 (fun v2 => ?_)
        refine dn_iload_n (pc := 68) 1 dX11_flatten_68 rfl ?_
        refine dn_iald (pc := 69) v2 dX11_flatten_69 (fun v3 => ?_)
        refine dn_icmp_ge (pc := 70) 118 dX11_flatten_70 rfl (fun _ => ?_) (fun _ => ?_)
        · refine dn_leaf ?_
          exact dn_lv [0, 1, 2, 3, 4, 5] rfl (hE59 (s59.1, s59.2.1))
        · refine dn_aload_n (pc := 73) l0 0 dX11_flatten_73 rfl ?_
          refine dn_getR (pc := 74) l0 lRX11_9 dX11_flatten_74 (fun v4 => ?_)
          refine dn_iload_n (pc := 77) 1 dX11_flatten_77 rfl ?_
          refine dn_iload (pc := 78) 6 dX11_flatten_78 rfl ?_
          refine dn_callV0R (pc := 80) [.int l1, .int s59.2.2] v4 kRX11_37 (mX9_rowAt w x b v4 l1 s59.2.2) rfl rfl (Nat.le_of_ble_eq_true rfl) ⟨(Nat.le_of_ble_eq_true rfl), (Nat.le_of_ble_eq_true rfl)⟩ ⟨rfl, rfl, (Nat.le_of_ble_eq_true rfl), (Nat.le_of_ble_eq_true rfl)⟩ dX11_flatten_80 (fun v5 => ?_)
          refine dn_astore (pc := 83) v5 dX11_flatten_83 (Nat.le_of_ble_eq_true rfl) (dnKp_nb 6 rfl rfl rfl (dnKp_of (lv2 := [(0, dnV b l0), (1, .int l1), (2, .int l2), (3, .int l3), (5, .int s59.1), (6, .int s59.2.1)]) [0, 1, 2, 3, 4, 5] rfl rfl)) ?_
          refine dn_aload (pc := 85) v5 0 dX11_flatten_85 rfl ?_
          refine dn_ifnull (pc := 87) v5 112 dX11_flatten_87 rfl (fun e_ => ?_) (fun v6 e_ => ?_)
          · subst e_
            exact dn_lv [2, 3, 4, 5, 6, 7, 1] rfl (hj112 s59.1 s59.2.1 s59.2.2)
          · subst e_
            refine dn_iload (pc := 90) 6 dX11_flatten_90 rfl ?_
            refine dn_aload (pc := 92) (some v6) 0 dX11_flatten_92 rfl ?_
            refine dn_getI (pc := 94) (some v6) lRX11_41 dX11_flatten_94 (fun v7 => ?_)
            refine dn_iadd (pc := 97) dX11_flatten_97 ?_
            refine dn_istore (pc := 98) dX11_flatten_98 (Nat.le_of_ble_eq_true rfl) (dnKp_of (lv2 := [(8, dnV b (some v6)), (7, .int s59.2.2), (0, dnV b l0), (1, .int l1), (2, .int l2), (3, .int l3), (6, .int s59.2.1)]) [0, 1, 2, 3, 4, 5, 7] rfl rfl) ?_
            refine dn_iload (pc := 100) 7 dX11_flatten_100 rfl ?_
            refine dn_iconst (pc := 102) (v := 1) dX11_flatten_102 rfl ?_
            refine dn_aload (pc := 103) (some v6) 1 dX11_flatten_103 rfl ?_
            refine dn_getI (pc := 105) (some v6) lRX11_47 dX11_flatten_105 (fun v8 => ?_)
            refine dn_ishl (pc := 108) dX11_flatten_108 ?_
            refine dn_ior (pc := 109) dX11_flatten_109 ?_
            refine dn_istore (pc := 110) dX11_flatten_110 (Nat.le_of_ble_eq_true rfl) (dnKp_nb 0 rfl rfl rfl (dnKp_of (lv2 := [(7, .int s59.2.2), (0, dnV b l0), (1, .int l1), (2, .int l2), (3, .int l3)]) [2, 3, 4, 5, 6] rfl rfl)) ?_
            exact dn_lv [3, 4, 5, 6, 1, 0, 2] rfl (hj112 (s59.1 + v7) (s59.2.1 ||| (1 <<< (v8 &&& 31))) s59.2.2)
      · refine dn_iload (pc := 118) 4 dX11_flatten_118 rfl ?_
        refine dn_bipush (pc := 120) (v := 12) dX11_flatten_120 rfl ?_
        refine dn_icmp_le (pc := 122) 128 dX11_flatten_122 rfl (fun _ => ?_) (fun _ => ?_)
        · refine dn_aload_n (pc := 128) l0 0 dX11_flatten_128 rfl ?_
          refine dn_getR (pc := 129) l0 lRX11_9 dX11_flatten_129 (fun v9 => ?_)
          refine dn_iload (pc := 132) 5 dX11_flatten_132 rfl ?_
          refine dn_callSN0I (pc := 134) [.int q59.2]  kRX11_50 (mX12_leastKind w x b q59.2) rfl rfl (Nat.le_of_ble_eq_true rfl) ⟨(Nat.le_of_ble_eq_true rfl), (Nat.le_of_ble_eq_true rfl)⟩ ⟨rfl, rfl, (Nat.le_of_ble_eq_true rfl), (Nat.le_of_ble_eq_true rfl)⟩ dX11_flatten_134 (fun v10 => ?_)
          refine dn_iload (pc := 137) 4 dX11_flatten_137 rfl ?_
          refine dn_callV0R (pc := 139) [.int v10, .int q59.1] v9 kRX11_53 (mX9_freshRow w x b v9 v10 q59.1) rfl rfl (Nat.le_of_ble_eq_true rfl) ⟨(Nat.le_of_ble_eq_true rfl), (Nat.le_of_ble_eq_true rfl)⟩ ⟨rfl, rfl, (Nat.le_of_ble_eq_true rfl), (Nat.le_of_ble_eq_true rfl)⟩ dX11_flatten_139 (fun v11 => ?_)
          refine dn_astore (pc := 142) v11 dX11_flatten_142 (Nat.le_of_ble_eq_true rfl) (dnKp_of (lv2 := [(0, dnV b l0), (1, .int l1), (2, .int l2), (3, .int l3), (5, .int q59.1)]) [0, 1, 2, 3, 4] rfl rfl) ?_
          refine dn_iconst (pc := 144) (v := 0) dX11_flatten_144 rfl ?_
          refine dn_istore (pc := 145) dX11_flatten_145 (Nat.le_of_ble_eq_true rfl) (dnKp_nb 0 rfl (dn_cat b _) rfl (dnKp_of (lv2 := [(0, dnV b l0), (1, .int l1), (2, .int l2), (3, .int l3), (5, .int q59.1)]) [1, 2, 3, 4, 5] rfl rfl)) ?_
          refine dn_iconst (pc := 147) (v := 0) dX11_flatten_147 rfl ?_
          refine dn_istore (pc := 148) dX11_flatten_148 (Nat.le_of_ble_eq_true rfl) (dnKp_nb 0 rfl rfl rfl (dnKp_of (lv2 := [(7, dnV b v11), (0, dnV b l0), (1, .int l1), (2, .int l2), (3, .int l3), (5, .int q59.1)]) [1, 2, 3, 4, 5, 6] rfl rfl)) ?_
          refine dn_assoc ?_
          refine dn_lv [3, 4, 5, 6, 7, 2, 1, 0] (lv2 := (fun s => [(0, dnV b l0), (1, .int l1), (2, .int l2), (3, .int l3), (5, .int q59.1), (7, dnV b v11), (8, .int s.1), (9, .int s.2)]) (0, 0)) rfl ?_
          refine dn_loopE (pc := 150) (body := fX11_flatten_b150 l0 l1 l2 l3 q59.1 v11) 212 (fun s => [(0, dnV b l0), (1, .int l1), (2, .int l2), (3, .int l3), (5, .int q59.1), (7, dnV b v11), (8, .int s.1), (9, .int s.2)]) (fun q => [(0, dnV b l0), (2, .int l2), (3, .int l3), (5, .int q59.1), (7, dnV b v11)]) (fun s150 K150 E150 hK150 hE150 => ?_) (fun q150 => ?_) 1000 (0, 0)
          · unfold fX11_flatten_b150
            have hj206 : ∀ (l8 : Int32) (l9 : Int32), jX11_flatten w x b 206 0 0 [(0, dnV b l0), (1, .int l1), (2, .int l2), (3, .int l3), (5, .int q59.1), (7, dnV b v11), (8, .int l8), (9, .int l9)] [] (dnB (fX11_flatten_j206 l0 l1 l2 l3 q59.1 v11 l8 l9) (dnKo K150 E150)) := by
              intro l8 l9
              unfold fX11_flatten_j206
              refine dn_iinc (pc := 206) (l9 + 1) 7 dX11_flatten_206 rfl rfl (Nat.le_of_ble_eq_true rfl) (dnKp_nb 6 rfl rfl rfl (dnKp_of (lv2 := [(0, dnV b l0), (1, .int l1), (2, .int l2), (3, .int l3), (5, .int q59.1), (7, dnV b v11)]) [0, 1, 2, 3, 4, 5] rfl rfl)) ?_
              refine dn_goto (pc := 209) 150 dX11_flatten_209 rfl ?_
              refine dn_leaf ?_
              exact dn_lv [2, 3, 4, 5, 6, 7, 1, 0] rfl (hK150 (l8, (l9 + 1)))
            refine dn_iload (pc := 150) 7 dX11_flatten_150 rfl ?_
            refine dn_aload_n (pc := 152) l0 0 dX11_flatten_152 rfl ?_
            refine dn_getR (pc := 153) l0 lRX11_9 dX11_flatten_153 (fun v12 => ?_)
            refine dn_getR (pc := 156) v12 lRX11_33 dX11_flatten_156 (fun v13 => ?_)
            refine dn_iload_n (pc := 159) 1 dX11_flatten_159 rfl ?_
            refine dn_iald (pc := 160) v13 dX11_flatten_160 (fun v14 => ?_)
            refine dn_icmp_ge (pc := 161) 212 dX11_flatten_161 rfl (fun _ => ?_) (fun _ => ?_)
            · refine dn_leaf ?_
              exact dn_lv [0, 2, 3, 4, 5] rfl (hE150 ())
            · refine dn_aload_n (pc := 164) l0 0 dX11_flatten_164 rfl ?_
              refine dn_getR (pc := 165) l0 lRX11_9 dX11_flatten_165 (fun v15 => ?_)
              refine dn_iload_n (pc := 168) 1 dX11_flatten_168 rfl ?_
              refine dn_iload (pc := 169) 7 dX11_flatten_169 rfl ?_
              refine dn_callV0R (pc := 171) [.int l1, .int s150.2] v15 kRX11_37 (mX9_rowAt w x b v15 l1 s150.2) rfl rfl (Nat.le_of_ble_eq_true rfl) ⟨(Nat.le_of_ble_eq_true rfl), (Nat.le_of_ble_eq_true rfl)⟩ ⟨rfl, rfl, (Nat.le_of_ble_eq_true rfl), (Nat.le_of_ble_eq_true rfl)⟩ dX11_flatten_171 (fun v16 => ?_)
              refine dn_astore (pc := 174) v16 dX11_flatten_174 (Nat.le_of_ble_eq_true rfl) (dnKp_nb 7 rfl rfl rfl (dnKp_of (lv2 := [(0, dnV b l0), (1, .int l1), (2, .int l2), (3, .int l3), (5, .int q59.1), (7, dnV b v11), (8, .int s150.1)]) [0, 1, 2, 3, 4, 5, 6] rfl rfl)) ?_
              refine dn_aload (pc := 176) v16 0 dX11_flatten_176 rfl ?_
              refine dn_ifnull (pc := 178) v16 206 dX11_flatten_178 rfl (fun e_ => ?_) (fun v17 e_ => ?_)
              · subst e_
                exact dn_lv [2, 3, 4, 5, 6, 7, 8, 1] rfl (hj206 s150.1 s150.2)
              · subst e_
                refine dn_aload (pc := 181) v11 7 dX11_flatten_181 rfl ?_
                refine dn_iload (pc := 183) 8 dX11_flatten_183 rfl ?_
                refine dn_aload (pc := 185) (some v17) 0 dX11_flatten_185 rfl ?_
                refine dn_iconst (pc := 187) (v := 0) dX11_flatten_187 rfl ?_
                refine dn_aload (pc := 188) (some v17) 0 dX11_flatten_188 rfl ?_
                refine dn_getI (pc := 190) (some v17) lRX11_41 dX11_flatten_190 (fun v18 => ?_)
                refine dn_callS0U (pc := 193) [dnV b v11, .int s150.1, dnV b (some v17), .int 0, .int v18]  kRX11_56 (mX6_append w x b v11 s150.1 (some v17) 0 v18) rfl rfl (Nat.le_of_ble_eq_true rfl) ⟨(Nat.le_of_ble_eq_true rfl), (Nat.le_of_ble_eq_true rfl)⟩ ⟨rfl, rfl, (Nat.le_of_ble_eq_true rfl), (Nat.le_of_ble_eq_true rfl)⟩ dX11_flatten_193 (fun _ => ?_)
                refine dn_iload (pc := 196) 8 dX11_flatten_196 rfl ?_
                refine dn_aload (pc := 198) (some v17) 0 dX11_flatten_198 rfl ?_
                refine dn_getI (pc := 200) (some v17) lRX11_41 dX11_flatten_200 (fun v20 => ?_)
                refine dn_iadd (pc := 203) dX11_flatten_203 ?_
                refine dn_istore (pc := 204) dX11_flatten_204 (Nat.le_of_ble_eq_true rfl) (dnKp_nb 7 rfl (dn_cat b _) rfl (dnKp_of (lv2 := [(9, .int s150.2), (0, dnV b l0), (1, .int l1), (2, .int l2), (3, .int l3), (5, .int q59.1)]) [1, 2, 3, 4, 5, 6] rfl rfl)) ?_
                exact dn_lv [3, 4, 5, 6, 7, 1, 0, 2] rfl (hj206 (s150.1 + v20) s150.2)
          · refine dn_aload_n (pc := 212) l0 0 dX11_flatten_212 rfl ?_
            refine dn_getR (pc := 213) l0 lRX11_9 dX11_flatten_213 (fun v21 => ?_)
            refine dn_iload_n (pc := 216) 1 dX11_flatten_216 rfl ?_
            refine dn_iload_n (pc := 217) 2 dX11_flatten_217 rfl ?_
            refine dn_aload (pc := 218) v11 4 dX11_flatten_218 rfl ?_
            refine dn_callV0U (pc := 220) [.int l2, .int l3, dnV b v11] v21 kRX11_62 (mX9_place w x b v21 l2 l3 v11) rfl rfl (Nat.le_of_ble_eq_true rfl) ⟨(Nat.le_of_ble_eq_true rfl), (Nat.le_of_ble_eq_true rfl)⟩ ⟨rfl, rfl, (Nat.le_of_ble_eq_true rfl), (Nat.le_of_ble_eq_true rfl)⟩ dX11_flatten_220 (fun _ => ?_)
            refine dn_iload (pc := 223) 3 dX11_flatten_223 rfl ?_
            exact dn_ret (Nat.le_of_ble_eq_true rfl) (Nat.le_of_ble_eq_true rfl) rfl dX11_flatten_225
        · refine dn_bipush (pc := 125) (v := -10) dX11_flatten_125 rfl ?_
          exact dn_ret (Nat.le_of_ble_eq_true rfl) (Nat.le_of_ble_eq_true rfl) rfl dX11_flatten_127
    · refine dn_iload (pc := 47) 4 dX11_flatten_47 rfl ?_
      exact dn_ret (Nat.le_of_ble_eq_true rfl) (Nat.le_of_ble_eq_true rfl) rfl dX11_flatten_49
  refine dn_iload_n (pc := 0) 1 dX11_flatten_0 rfl ?_
  refine dn_callSN0Z (pc := 1) [.int p1]  kRX11_19 (mX12_isGrid w x b p1) rfl rfl (Nat.le_of_ble_eq_true rfl) ⟨(Nat.le_of_ble_eq_true rfl), (Nat.le_of_ble_eq_true rfl)⟩ ⟨rfl, rfl, (Nat.le_of_ble_eq_true rfl), (Nat.le_of_ble_eq_true rfl)⟩ dX11_flatten_1 (fun v23 => ?_)
  refine dn_ifz_eq (pc := 4) 14 dX11_flatten_4 rfl (fun _ => ?_) (fun _ => ?_)
  · refine dn_iload_n (pc := 7) 2 dX11_flatten_7 rfl ?_
    refine dn_callSN0Z (pc := 8) [.int p2]  kRX11_19 (mX12_isGrid w x b p2) rfl rfl (Nat.le_of_ble_eq_true rfl) ⟨(Nat.le_of_ble_eq_true rfl), (Nat.le_of_ble_eq_true rfl)⟩ ⟨rfl, rfl, (Nat.le_of_ble_eq_true rfl), (Nat.le_of_ble_eq_true rfl)⟩ dX11_flatten_8 (fun v24 => ?_)
    refine dn_ifz_ne (pc := 11) 16 dX11_flatten_11 rfl (fun _ => ?_) (fun _ => ?_)
    · refine dn_aload_n (pc := 16) r0 0 dX11_flatten_16 rfl ?_
      refine dn_getR (pc := 17) r0 lRX11_9 dX11_flatten_17 (fun v25 => ?_)
      refine dn_iload_n (pc := 20) 1 dX11_flatten_20 rfl ?_
      refine dn_callV0I (pc := 21) [.int p1] v25 kRX11_23 (mX9_gridFault w x b v25 p1) rfl rfl (Nat.le_of_ble_eq_true rfl) ⟨(Nat.le_of_ble_eq_true rfl), (Nat.le_of_ble_eq_true rfl)⟩ ⟨rfl, rfl, (Nat.le_of_ble_eq_true rfl), (Nat.le_of_ble_eq_true rfl)⟩ dX11_flatten_21 (fun v26 => ?_)
      refine dn_istore (pc := 24) dX11_flatten_24 (Nat.le_of_ble_eq_true rfl) (dnKp_nb 3 rfl rfl rfl (dnKp_of (lv2 := [(0, dnV b r0), (1, .int p1), (2, .int p2)]) [0, 1, 2] rfl rfl)) ?_
      refine dn_iload (pc := 26) 0 dX11_flatten_26 rfl ?_
      refine dn_if_ne (pc := 28) 42 dX11_flatten_28 rfl (fun _ => ?_) (fun _ => ?_)
      · exact dn_lv [2, 3, 4, 1, 0] rfl (hj42 r0 p1 p2 p3 v26)
      · refine dn_aload_n (pc := 31) r0 2 dX11_flatten_31 rfl ?_
        refine dn_getR (pc := 32) r0 lRX11_9 dX11_flatten_32 (fun v27 => ?_)
        refine dn_iload_n (pc := 35) 4 dX11_flatten_35 rfl ?_
        refine dn_iload_n (pc := 36) 1 dX11_flatten_36 rfl ?_
        refine dn_callV0I (pc := 37) [.int p2, .int p3] v27 kRX11_29 (mX9_placeFault w x b v27 p2 p3) rfl rfl (Nat.le_of_ble_eq_true rfl) ⟨(Nat.le_of_ble_eq_true rfl), (Nat.le_of_ble_eq_true rfl)⟩ ⟨rfl, rfl, (Nat.le_of_ble_eq_true rfl), (Nat.le_of_ble_eq_true rfl)⟩ dX11_flatten_37 (fun v28 => ?_)
        refine dn_istore (pc := 40) dX11_flatten_40 (Nat.le_of_ble_eq_true rfl) (dnKp_nb 1 rfl rfl rfl (dnKp_of (lv2 := [(0, dnV b r0), (1, .int p1), (2, .int p2)]) [2, 3, 4] rfl rfl)) ?_
        exact dn_lv [2, 3, 4, 1, 0] rfl (hj42 r0 p1 p2 p3 v28)
    · refine dn_iconst (pc := 14) (v := -1) dX11_flatten_14 rfl ?_
      exact dn_ret (Nat.le_of_ble_eq_true rfl) (Nat.le_of_ble_eq_true rfl) rfl dX11_flatten_15
  · refine dn_iconst (pc := 14) (v := -1) dX11_flatten_14 rfl ?_
    exact dn_ret (Nat.le_of_ble_eq_true rfl) (Nat.le_of_ble_eq_true rfl) rfl dX11_flatten_15
abbrev rmX11_init : Room := { frames := 1, cells := 0, slots := 0, locals := 20 }
def fX11_init (r0 : Option Nat) (r1 : Option Nat) (r2 : Option Nat) : dnM Unit :=
  dnB (dnCk r0 9) fun _ =>
  dnB (dnPR r0 9 0 r1) fun _ =>
  dnB (dnPR r0 9 1 r2) fun _ =>
  dnP ()
abbrev jX11_init (w : dnWd) (x : dnX) (b : Nat) := dnD w x b (fun _ => True) cX11_init RX11 3 rmX11_init "<init>" eU
set_option maxHeartbeats 4000000 in
set_option maxRecDepth 100000 in
theorem mX11_init (w : dnWd) (x : dnX) (b : Nat) (r0 : Option Nat) (r1 : Option Nat) (r2 : Option Nat) : dnMt w x b yX11_init cX11_init 3 none rmX11_init eU [dnV b r0, dnV b r1, dnV b r2] (fX11_init r0 r1 r2) := by
  have hlv : lv_args 0 [dnV b r0, dnV b r1, dnV b r2] = [(0, dnV b r0), (1, dnV b r1), (2, dnV b r2)] := by cases r0 <;> cases r1 <;> cases r2 <;> rfl
  refine dn_mt (by decide +kernel) roU (by cases r0 <;> cases r1 <;> cases r2 <;> exact (Nat.le_of_ble_eq_true rfl)) ?_
  rw [hlv]
  refine dn_top ?_
  show jX11_init w x b 0 0 0 _ [] (dnB _ dnP)
  unfold fX11_init
  refine dn_aload_n (pc := 0) r0 0 dX11_init_0 rfl ?_
  refine dn_objInitC (pc := 1) r0 kRX11_3 ko_1 ko_2 dX11_init_1 ⟨(Nat.le_of_ble_eq_true rfl), (Nat.le_of_ble_eq_true rfl)⟩ (Nat.le_of_ble_eq_true rfl) ?_
  refine dn_aload_n (pc := 4) r0 0 dX11_init_4 rfl ?_
  refine dn_aload_n (pc := 5) r1 1 dX11_init_5 rfl ?_
  refine dn_putRF (pc := 6) r0 lRX11_9 rfl rfl dX11_init_6 ?_
  refine dn_aload_n (pc := 9) r0 0 dX11_init_9 rfl ?_
  refine dn_aload_n (pc := 10) r2 2 dX11_init_10 rfl ?_
  refine dn_putRF (pc := 11) r0 lRX11_15 rfl rfl dX11_init_11 ?_
  exact dn_ret (Nat.le_of_ble_eq_true rfl) (Nat.le_of_ble_eq_true rfl) rfl dX11_init_14
abbrev rmX5_hasCell : Room := { frames := 0, cells := 0, slots := 0, locals := 0 }
def fX5_hasCell (r0 : Option Nat) (p1 : Int32) : dnM Bool :=
  if p1 < 0 then
  (dnP false)
  else
  (dnB (dnGI r0 4 2) fun v1 =>
  if v1 ≤ p1 then
  (dnP false)
  else
  (dnP true))
abbrev jX5_hasCell (w : dnWd) (x : dnX) (b : Nat) := dnD w x b (fun _ => True) cX5_hasCell RX5 2 rmX5_hasCell "hasCell" eZ
set_option maxHeartbeats 4000000 in
set_option maxRecDepth 100000 in
theorem mX5_hasCell (w : dnWd) (x : dnX) (b : Nat) (r0 : Option Nat) (p1 : Int32) : dnMt w x b yX5_hasCell cX5_hasCell 2 (some .boolean) rmX5_hasCell eZ [dnV b r0, .int p1] (fX5_hasCell r0 p1) := by
  have hlv : lv_args 0 [dnV b r0, .int p1] = [(0, dnV b r0), (1, .int p1)] := by cases r0 <;> rfl
  refine dn_mt (by decide +kernel) roZ (by cases r0 <;> exact (Nat.le_of_ble_eq_true rfl)) ?_
  rw [hlv]
  refine dn_top ?_
  show jX5_hasCell w x b 0 0 0 _ [] (dnB _ dnP)
  unfold fX5_hasCell
  refine dn_iload_n (pc := 0) 1 dX5_hasCell_0 rfl ?_
  refine dn_if_lt (pc := 1) 16 dX5_hasCell_1 rfl (fun _ => ?_) (fun _ => ?_)
  · refine dn_iconst (pc := 16) (v := 0) dX5_hasCell_16 rfl ?_
    exact dn_ret (Nat.le_of_ble_eq_true rfl) (Nat.le_of_ble_eq_true rfl) rfl dX5_hasCell_17
  · refine dn_iload_n (pc := 4) 1 dX5_hasCell_4 rfl ?_
    refine dn_aload_n (pc := 5) r0 0 dX5_hasCell_5 rfl ?_
    refine dn_getI (pc := 6) r0 lRX5_15 dX5_hasCell_6 (fun v1 => ?_)
    refine dn_icmp_ge (pc := 9) 16 dX5_hasCell_9 rfl (fun _ => ?_) (fun _ => ?_)
    · refine dn_iconst (pc := 16) (v := 0) dX5_hasCell_16 rfl ?_
      exact dn_ret (Nat.le_of_ble_eq_true rfl) (Nat.le_of_ble_eq_true rfl) rfl dX5_hasCell_17
    · refine dn_iconst (pc := 12) (v := 1) dX5_hasCell_12 rfl ?_
      refine dn_goto (pc := 13) 17 dX5_hasCell_13 rfl ?_
      exact dn_ret (Nat.le_of_ble_eq_true rfl) (Nat.le_of_ble_eq_true rfl) rfl dX5_hasCell_17
abbrev rmX11_makeColumn : Room := { frames := 4, cells := 0, slots := 0, locals := 93 }
def fX11_makeColumn_j63 (l0 : Option Nat) (l1 : Int32) (l2 : Int32) (l3 : Int32) (l4 : Int32) (l5 : Int32) : dnM ((Int32 × Int32 × Int32) ⊕ (Int32 × Int32)) :=
  dnP (.inl (l3, l4, (l5 + 1)))
def fX11_makeColumn_b8 (c0 : Option Nat) (c1 : Int32) (c2 : Int32) (s8 : Int32 × Int32 × Int32) : dnM ((Int32 × Int32 × Int32) ⊕ (Int32 × Int32)) :=
  dnB (dnGR c0 9 0) fun v1 =>
  dnB (dnGR v1 7 0) fun v2 =>
  dnB (dnAI v2 100 c1) fun v3 =>
  if v3 ≤ s8.2.2 then
  (dnP (.inr (s8.1, s8.2.1)))
  else
  (dnB (dnGR c0 9 0) fun v4 =>
  dnB (dnCv v4 7 (fX9_rowAt v4 c1 s8.2.2)) fun v5 =>
  v5.elim
  (fX11_makeColumn_j63 c0 c1 c2 s8.1 s8.2.1 s8.2.2)
  (fun v6 => dnB (dnCv (some v6) 4 (fX5_hasCell (some v6) c2)) fun v7 =>
  if v7 = true then
  (dnB (dnGI (some v6) 4 1) fun v8 =>
  fX11_makeColumn_j63 c0 c1 c2 (s8.1 + 1) (s8.2.1 ||| (1 <<< (v8 &&& 31))) s8.2.2)
  else
  (fX11_makeColumn_j63 c0 c1 c2 s8.1 s8.2.1 s8.2.2)))
def fX11_makeColumn_j145 (l0 : Option Nat) (l1 : Int32) (l2 : Int32) (l5 : Option Nat) (l6 : Int32) (l7 : Int32) : dnM ((Int32 × Int32) ⊕ (Unit)) :=
  dnP (.inl (l6, (l7 + 1)))
def fX11_makeColumn_b91 (c0 : Option Nat) (c1 : Int32) (c2 : Int32) (c5 : Option Nat) (s91 : Int32 × Int32) : dnM ((Int32 × Int32) ⊕ (Unit)) :=
  dnB (dnGR c0 9 0) fun v12 =>
  dnB (dnGR v12 7 0) fun v13 =>
  dnB (dnAI v13 100 c1) fun v14 =>
  if v14 ≤ s91.2 then
  (dnP (.inr ()))
  else
  (dnB (dnGR c0 9 0) fun v15 =>
  dnB (dnCv v15 7 (fX9_rowAt v15 c1 s91.2)) fun v16 =>
  v16.elim
  (fX11_makeColumn_j145 c0 c1 c2 c5 s91.1 s91.2)
  (fun v17 => dnB (dnCv (some v17) 4 (fX5_hasCell (some v17) c2)) fun v18 =>
  if v18 = true then
  (dnB (dnCv c5 4 (fX5_accept c5 s91.1 (some v17) c2)) fun v19 =>
  fX11_makeColumn_j145 c0 c1 c2 c5 (s91.1 + 1) s91.2)
  else
  (fX11_makeColumn_j145 c0 c1 c2 c5 s91.1 s91.2)))
def fX11_makeColumn (r0 : Option Nat) (p1 : Int32) (p2 : Int32) : dnM Unit :=
  dnB (dnIt 1000 (fX11_makeColumn_b8 r0 p1 p2) (0, 0, 0)) fun q8 =>
  dnB (dnGR r0 9 0) fun v9 =>
  dnB (fX12_leastKind q8.2) fun v10 =>
  dnB (dnCv v9 7 (fX9_rowOfNewGrid v9 p2 v10 q8.1)) fun v11 =>
  dnB (dnIt 1000 (fX11_makeColumn_b91 r0 p1 p2 v11) (0, 0)) fun q91 =>
  dnP ()
abbrev jX11_makeColumn (w : dnWd) (x : dnX) (b : Nat) := dnD w x b (fun _ => True) cX11_makeColumn RX11 9 rmX11_makeColumn "makeColumn" eU
set_option maxHeartbeats 4000000 in
set_option maxRecDepth 100000 in
theorem mX11_makeColumn (w : dnWd) (x : dnX) (b : Nat) (r0 : Option Nat) (p1 : Int32) (p2 : Int32) : dnMt w x b yX11_makeColumn cX11_makeColumn 9 none rmX11_makeColumn eU [dnV b r0, .int p1, .int p2] (fX11_makeColumn r0 p1 p2) := by
  have hlv : lv_args 0 [dnV b r0, .int p1, .int p2] = [(0, dnV b r0), (1, .int p1), (2, .int p2)] := by cases r0 <;> rfl
  refine dn_mt (by decide +kernel) roU (by cases r0 <;> exact (Nat.le_of_ble_eq_true rfl)) ?_
  rw [hlv]
  refine dn_top ?_
  show jX11_makeColumn w x b 0 0 0 _ [] (dnB _ dnP)
  unfold fX11_makeColumn
  refine dn_iconst (pc := 0) (v := 0) dX11_makeColumn_0 rfl ?_
  refine dn_istore_n (pc := 1) dX11_makeColumn_1 (Nat.le_of_ble_eq_true rfl) (dnKp_nb 2 rfl rfl rfl (dnKp_of (lv2 := [(0, dnV b r0), (1, .int p1)]) [0, 1] rfl rfl)) ?_
  refine dn_iconst (pc := 2) (v := 0) dX11_makeColumn_2 rfl ?_
  refine dn_istore (pc := 3) dX11_makeColumn_3 (Nat.le_of_ble_eq_true rfl) (dnKp_nb 0 rfl rfl rfl (dnKp_of (lv2 := [(2, .int p2), (0, dnV b r0), (1, .int p1)]) [1, 2, 3] rfl rfl)) ?_
  refine dn_iconst (pc := 5) (v := 0) dX11_makeColumn_5 rfl ?_
  refine dn_istore (pc := 6) dX11_makeColumn_6 (Nat.le_of_ble_eq_true rfl) (dnKp_nb 0 rfl rfl rfl (dnKp_of (lv2 := [(3, .int 0), (2, .int p2), (0, dnV b r0), (1, .int p1)]) [1, 2, 3, 4] rfl rfl)) ?_
  refine dn_assoc ?_
  refine dn_lv [4, 5, 3, 2, 1, 0] (lv2 := (fun s => [(0, dnV b r0), (1, .int p1), (2, .int p2), (3, .int s.1), (4, .int s.2.1), (5, .int s.2.2)]) (0, 0, 0)) rfl ?_
  refine dn_loopE (pc := 8) (body := fX11_makeColumn_b8 r0 p1 p2) 69 (fun s => [(0, dnV b r0), (1, .int p1), (2, .int p2), (3, .int s.1), (4, .int s.2.1), (5, .int s.2.2)]) (fun q => [(0, dnV b r0), (1, .int p1), (2, .int p2), (3, .int q.1), (4, .int q.2)]) (fun s8 K8 E8 hK8 hE8 => ?_) (fun q8 => ?_) 1000 (0, 0, 0)
  · unfold fX11_makeColumn_b8
    have hj63 : ∀ (l3 : Int32) (l4 : Int32) (l5 : Int32), jX11_makeColumn w x b 63 0 0 [(0, dnV b r0), (1, .int p1), (2, .int p2), (3, .int l3), (4, .int l4), (5, .int l5)] [] (dnB (fX11_makeColumn_j63 r0 p1 p2 l3 l4 l5) (dnKo K8 E8)) := by
      intro l3 l4 l5
      unfold fX11_makeColumn_j63
      refine dn_iinc (pc := 63) (l5 + 1) 5 dX11_makeColumn_63 rfl rfl (Nat.le_of_ble_eq_true rfl) (dnKp_nb 4 rfl rfl rfl (dnKp_of (lv2 := [(0, dnV b r0), (1, .int p1), (2, .int p2), (3, .int l3)]) [0, 1, 2, 3] rfl rfl)) ?_
      refine dn_goto (pc := 66) 8 dX11_makeColumn_66 rfl ?_
      refine dn_leaf ?_
      exact dn_lv [2, 3, 4, 5, 1, 0] rfl (hK8 (l3, l4, (l5 + 1)))
    refine dn_iload (pc := 8) 5 dX11_makeColumn_8 rfl ?_
    refine dn_aload_n (pc := 10) r0 0 dX11_makeColumn_10 rfl ?_
    refine dn_getR (pc := 11) r0 lRX11_9 dX11_makeColumn_11 (fun v1 => ?_)
    refine dn_getR (pc := 14) v1 lRX11_33 dX11_makeColumn_14 (fun v2 => ?_)
    refine dn_iload_n (pc := 17) 1 dX11_makeColumn_17 rfl ?_
    refine dn_iald (pc := 18) v2 dX11_makeColumn_18 (fun v3 => ?_)
    refine dn_icmp_ge (pc := 19) 69 dX11_makeColumn_19 rfl (fun _ => ?_) (fun _ => ?_)
    · refine dn_leaf ?_
      exact dn_lv [0, 1, 2, 3, 4] rfl (hE8 (s8.1, s8.2.1))
    · refine dn_aload_n (pc := 22) r0 0 dX11_makeColumn_22 rfl ?_
      refine dn_getR (pc := 23) r0 lRX11_9 dX11_makeColumn_23 (fun v4 => ?_)
      refine dn_iload_n (pc := 26) 1 dX11_makeColumn_26 rfl ?_
      refine dn_iload (pc := 27) 5 dX11_makeColumn_27 rfl ?_
      refine dn_callV0R (pc := 29) [.int p1, .int s8.2.2] v4 kRX11_37 (mX9_rowAt w x b v4 p1 s8.2.2) rfl rfl (Nat.le_of_ble_eq_true rfl) ⟨(Nat.le_of_ble_eq_true rfl), (Nat.le_of_ble_eq_true rfl)⟩ ⟨rfl, rfl, (Nat.le_of_ble_eq_true rfl), (Nat.le_of_ble_eq_true rfl)⟩ dX11_makeColumn_29 (fun v5 => ?_)
      refine dn_astore (pc := 32) v5 dX11_makeColumn_32 (Nat.le_of_ble_eq_true rfl) (dnKp_nb 5 rfl rfl rfl (dnKp_of (lv2 := [(0, dnV b r0), (1, .int p1), (2, .int p2), (3, .int s8.1), (4, .int s8.2.1)]) [0, 1, 2, 3, 4] rfl rfl)) ?_
      refine dn_aload (pc := 34) v5 0 dX11_makeColumn_34 rfl ?_
      refine dn_ifnull (pc := 36) v5 63 dX11_makeColumn_36 rfl (fun e_ => ?_) (fun v6 e_ => ?_)
      · subst e_
        exact dn_lv [2, 3, 4, 5, 6, 1] rfl (hj63 s8.1 s8.2.1 s8.2.2)
      · subst e_
        refine dn_aload (pc := 39) (some v6) 0 dX11_makeColumn_39 rfl ?_
        refine dn_iload_n (pc := 41) 4 dX11_makeColumn_41 rfl ?_
        refine dn_callV0Z (pc := 42) [.int p2] (some v6) kRX11_92 (mX5_hasCell w x b (some v6) p2) rfl rfl (Nat.le_of_ble_eq_true rfl) ⟨(Nat.le_of_ble_eq_true rfl), (Nat.le_of_ble_eq_true rfl)⟩ ⟨rfl, rfl, (Nat.le_of_ble_eq_true rfl), (Nat.le_of_ble_eq_true rfl)⟩ dX11_makeColumn_42 (fun v7 => ?_)
        refine dn_ifz_eq (pc := 45) 63 dX11_makeColumn_45 rfl (fun _ => ?_) (fun _ => ?_)
        · refine dn_iinc (pc := 48) (s8.1 + 1) 5 dX11_makeColumn_48 rfl rfl (Nat.le_of_ble_eq_true rfl) (dnKp_nb 4 rfl rfl rfl (dnKp_of (lv2 := [(6, dnV b (some v6)), (5, .int s8.2.2), (0, dnV b r0), (1, .int p1), (4, .int s8.2.1)]) [0, 1, 2, 3, 6] rfl rfl)) ?_
          refine dn_iload (pc := 51) 6 dX11_makeColumn_51 rfl ?_
          refine dn_iconst (pc := 53) (v := 1) dX11_makeColumn_53 rfl ?_
          refine dn_aload (pc := 54) (some v6) 2 dX11_makeColumn_54 rfl ?_
          refine dn_getI (pc := 56) (some v6) lRX11_47 dX11_makeColumn_56 (fun v8 => ?_)
          refine dn_ishl (pc := 59) dX11_makeColumn_59 ?_
          refine dn_ior (pc := 60) dX11_makeColumn_60 ?_
          refine dn_istore (pc := 61) dX11_makeColumn_61 (Nat.le_of_ble_eq_true rfl) (dnKp_nb 0 rfl rfl rfl (dnKp_of (lv2 := [(2, .int p2), (5, .int s8.2.2), (0, dnV b r0), (1, .int p1)]) [1, 3, 4, 5] rfl rfl)) ?_
          exact dn_lv [4, 5, 2, 1, 0, 3] rfl (hj63 (s8.1 + 1) (s8.2.1 ||| (1 <<< (v8 &&& 31))) s8.2.2)
        · exact dn_lv [2, 3, 4, 5, 6, 1] rfl (hj63 s8.1 s8.2.1 s8.2.2)
  · refine dn_aload_n (pc := 69) r0 0 dX11_makeColumn_69 rfl ?_
    refine dn_getR (pc := 70) r0 lRX11_9 dX11_makeColumn_70 (fun v9 => ?_)
    refine dn_iload_n (pc := 73) 2 dX11_makeColumn_73 rfl ?_
    refine dn_iload (pc := 74) 4 dX11_makeColumn_74 rfl ?_
    refine dn_callSN0I (pc := 76) [.int q8.2]  kRX11_50 (mX12_leastKind w x b q8.2) rfl rfl (Nat.le_of_ble_eq_true rfl) ⟨(Nat.le_of_ble_eq_true rfl), (Nat.le_of_ble_eq_true rfl)⟩ ⟨rfl, rfl, (Nat.le_of_ble_eq_true rfl), (Nat.le_of_ble_eq_true rfl)⟩ dX11_makeColumn_76 (fun v10 => ?_)
    refine dn_iload_n (pc := 79) 3 dX11_makeColumn_79 rfl ?_
    refine dn_callV0R (pc := 80) [.int p2, .int v10, .int q8.1] v9 kRX11_78 (mX9_rowOfNewGrid w x b v9 p2 v10 q8.1) rfl rfl (Nat.le_of_ble_eq_true rfl) ⟨(Nat.le_of_ble_eq_true rfl), (Nat.le_of_ble_eq_true rfl)⟩ ⟨rfl, rfl, (Nat.le_of_ble_eq_true rfl), (Nat.le_of_ble_eq_true rfl)⟩ dX11_makeColumn_80 (fun v11 => ?_)
    refine dn_astore (pc := 83) v11 dX11_makeColumn_83 (Nat.le_of_ble_eq_true rfl) (dnKp_of (lv2 := [(0, dnV b r0), (1, .int p1), (2, .int p2)]) [0, 1, 2] rfl rfl) ?_
    refine dn_iconst (pc := 85) (v := 0) dX11_makeColumn_85 rfl ?_
    refine dn_istore (pc := 86) dX11_makeColumn_86 (Nat.le_of_ble_eq_true rfl) (dnKp_nb 0 rfl (dn_cat b _) rfl (dnKp_of (lv2 := [(0, dnV b r0), (1, .int p1), (2, .int p2)]) [1, 2, 3] rfl rfl)) ?_
    refine dn_iconst (pc := 88) (v := 0) dX11_makeColumn_88 rfl ?_
    refine dn_istore (pc := 89) dX11_makeColumn_89 (Nat.le_of_ble_eq_true rfl) (dnKp_nb 0 rfl rfl rfl (dnKp_of (lv2 := [(5, dnV b v11), (0, dnV b r0), (1, .int p1), (2, .int p2)]) [1, 2, 3, 4] rfl rfl)) ?_
    refine dn_assoc ?_
    refine dn_lv [3, 4, 5, 2, 1, 0] (lv2 := (fun s => [(0, dnV b r0), (1, .int p1), (2, .int p2), (5, dnV b v11), (6, .int s.1), (7, .int s.2)]) (0, 0)) rfl ?_
    refine dn_loopE (pc := 91) (body := fX11_makeColumn_b91 r0 p1 p2 v11) 151 (fun s => [(0, dnV b r0), (1, .int p1), (2, .int p2), (5, dnV b v11), (6, .int s.1), (7, .int s.2)]) (fun q => []) (fun s91 K91 E91 hK91 hE91 => ?_) (fun q91 => ?_) 1000 (0, 0)
    · unfold fX11_makeColumn_b91
      have hj145 : ∀ (l6 : Int32) (l7 : Int32), jX11_makeColumn w x b 145 0 0 [(0, dnV b r0), (1, .int p1), (2, .int p2), (5, dnV b v11), (6, .int l6), (7, .int l7)] [] (dnB (fX11_makeColumn_j145 r0 p1 p2 v11 l6 l7) (dnKo K91 E91)) := by
        intro l6 l7
        unfold fX11_makeColumn_j145
        refine dn_iinc (pc := 145) (l7 + 1) 5 dX11_makeColumn_145 rfl rfl (Nat.le_of_ble_eq_true rfl) (dnKp_nb 4 rfl rfl rfl (dnKp_of (lv2 := [(0, dnV b r0), (1, .int p1), (2, .int p2), (5, dnV b v11)]) [0, 1, 2, 3] rfl rfl)) ?_
        refine dn_goto (pc := 148) 91 dX11_makeColumn_148 rfl ?_
        refine dn_leaf ?_
        exact dn_lv [2, 3, 4, 5, 1, 0] rfl (hK91 (l6, (l7 + 1)))
      refine dn_iload (pc := 91) 5 dX11_makeColumn_91 rfl ?_
      refine dn_aload_n (pc := 93) r0 0 dX11_makeColumn_93 rfl ?_
      refine dn_getR (pc := 94) r0 lRX11_9 dX11_makeColumn_94 (fun v12 => ?_)
      refine dn_getR (pc := 97) v12 lRX11_33 dX11_makeColumn_97 (fun v13 => ?_)
      refine dn_iload_n (pc := 100) 1 dX11_makeColumn_100 rfl ?_
      refine dn_iald (pc := 101) v13 dX11_makeColumn_101 (fun v14 => ?_)
      refine dn_icmp_ge (pc := 102) 151 dX11_makeColumn_102 rfl (fun _ => ?_) (fun _ => ?_)
      · refine dn_leaf ?_
        exact dn_lv [] rfl (hE91 ())
      · refine dn_aload_n (pc := 105) r0 0 dX11_makeColumn_105 rfl ?_
        refine dn_getR (pc := 106) r0 lRX11_9 dX11_makeColumn_106 (fun v15 => ?_)
        refine dn_iload_n (pc := 109) 1 dX11_makeColumn_109 rfl ?_
        refine dn_iload (pc := 110) 5 dX11_makeColumn_110 rfl ?_
        refine dn_callV0R (pc := 112) [.int p1, .int s91.2] v15 kRX11_37 (mX9_rowAt w x b v15 p1 s91.2) rfl rfl (Nat.le_of_ble_eq_true rfl) ⟨(Nat.le_of_ble_eq_true rfl), (Nat.le_of_ble_eq_true rfl)⟩ ⟨rfl, rfl, (Nat.le_of_ble_eq_true rfl), (Nat.le_of_ble_eq_true rfl)⟩ dX11_makeColumn_112 (fun v16 => ?_)
        refine dn_astore (pc := 115) v16 dX11_makeColumn_115 (Nat.le_of_ble_eq_true rfl) (dnKp_nb 5 rfl rfl rfl (dnKp_of (lv2 := [(0, dnV b r0), (1, .int p1), (2, .int p2), (5, dnV b v11), (6, .int s91.1)]) [0, 1, 2, 3, 4] rfl rfl)) ?_
        refine dn_aload (pc := 117) v16 0 dX11_makeColumn_117 rfl ?_
        refine dn_ifnull (pc := 119) v16 145 dX11_makeColumn_119 rfl (fun e_ => ?_) (fun v17 e_ => ?_)
        · subst e_
          exact dn_lv [2, 3, 4, 5, 6, 1] rfl (hj145 s91.1 s91.2)
        · subst e_
          refine dn_aload (pc := 122) (some v17) 0 dX11_makeColumn_122 rfl ?_
          refine dn_iload_n (pc := 124) 4 dX11_makeColumn_124 rfl ?_
          refine dn_callV0Z (pc := 125) [.int p2] (some v17) kRX11_92 (mX5_hasCell w x b (some v17) p2) rfl rfl (Nat.le_of_ble_eq_true rfl) ⟨(Nat.le_of_ble_eq_true rfl), (Nat.le_of_ble_eq_true rfl)⟩ ⟨rfl, rfl, (Nat.le_of_ble_eq_true rfl), (Nat.le_of_ble_eq_true rfl)⟩ dX11_makeColumn_125 (fun v18 => ?_)
          refine dn_ifz_eq (pc := 128) 145 dX11_makeColumn_128 rfl (fun _ => ?_) (fun _ => ?_)
          · refine dn_aload (pc := 131) v11 5 dX11_makeColumn_131 rfl ?_
            refine dn_iload (pc := 133) 6 dX11_makeColumn_133 rfl ?_
            refine dn_aload (pc := 135) (some v17) 0 dX11_makeColumn_135 rfl ?_
            refine dn_iload_n (pc := 137) 4 dX11_makeColumn_137 rfl ?_
            refine dn_callV0Z (pc := 138) [.int s91.1, dnV b (some v17), .int p2] v11 kRX11_95 (mX5_accept w x b v11 s91.1 (some v17) p2) rfl rfl (Nat.le_of_ble_eq_true rfl) ⟨(Nat.le_of_ble_eq_true rfl), (Nat.le_of_ble_eq_true rfl)⟩ ⟨rfl, rfl, (Nat.le_of_ble_eq_true rfl), (Nat.le_of_ble_eq_true rfl)⟩ dX11_makeColumn_138 (fun v19 => ?_)
            refine dn_pop (pc := 141) dX11_makeColumn_141 rfl ?_
            refine dn_iinc (pc := 142) (s91.1 + 1) 6 dX11_makeColumn_142 rfl rfl (Nat.le_of_ble_eq_true rfl) (dnKp_nb 5 rfl (dn_cat b _) rfl (dnKp_of (lv2 := [(7, .int s91.2), (0, dnV b r0), (1, .int p1), (2, .int p2)]) [1, 2, 3, 4] rfl rfl)) ?_
            exact dn_lv [3, 4, 5, 1, 0, 2] rfl (hj145 (s91.1 + 1) s91.2)
          · exact dn_lv [2, 3, 4, 5, 6, 1] rfl (hj145 s91.1 s91.2)
    · exact dn_ret (Nat.le_of_ble_eq_true rfl) (Nat.le_of_ble_eq_true rfl) rfl dX11_makeColumn_151
abbrev rmX5_cellsReadAs : Room := { frames := 2, cells := 0, slots := 0, locals := 42 }
def fX5_cellsReadAs_j18 : dnM Bool :=
  dnP true
def fX5_cellsReadAs (r0 : Option Nat) (p1 : Int32) : dnM Bool :=
  dnB (dnGI r0 4 2) fun v1 =>
  if v1 = 0 then
  (fX5_cellsReadAs_j18)
  else
  (dnB (dnGI r0 4 1) fun v2 =>
  dnB (fX12_readsAs v2 p1) fun v3 =>
  if v3 = true then
  (fX5_cellsReadAs_j18)
  else
  (dnP false))
abbrev jX5_cellsReadAs (w : dnWd) (x : dnX) (b : Nat) := dnD w x b (fun _ => True) cX5_cellsReadAs RX5 2 rmX5_cellsReadAs "cellsReadAs" eZ
set_option maxHeartbeats 4000000 in
set_option maxRecDepth 100000 in
theorem mX5_cellsReadAs (w : dnWd) (x : dnX) (b : Nat) (r0 : Option Nat) (p1 : Int32) : dnMt w x b yX5_cellsReadAs cX5_cellsReadAs 2 (some .boolean) rmX5_cellsReadAs eZ [dnV b r0, .int p1] (fX5_cellsReadAs r0 p1) := by
  have hlv : lv_args 0 [dnV b r0, .int p1] = [(0, dnV b r0), (1, .int p1)] := by cases r0 <;> rfl
  refine dn_mt (by decide +kernel) roZ (by cases r0 <;> exact (Nat.le_of_ble_eq_true rfl)) ?_
  rw [hlv]
  refine dn_top ?_
  show jX5_cellsReadAs w x b 0 0 0 _ [] (dnB _ dnP)
  unfold fX5_cellsReadAs
  have hj18 : jX5_cellsReadAs w x b 18 0 0 [] [] (dnB (fX5_cellsReadAs_j18) dnP) := by
    unfold fX5_cellsReadAs_j18
    refine dn_iconst (pc := 18) (v := 1) dX5_cellsReadAs_18 rfl ?_
    refine dn_goto (pc := 19) 23 dX5_cellsReadAs_19 rfl ?_
    exact dn_ret (Nat.le_of_ble_eq_true rfl) (Nat.le_of_ble_eq_true rfl) rfl dX5_cellsReadAs_23
  refine dn_aload_n (pc := 0) r0 0 dX5_cellsReadAs_0 rfl ?_
  refine dn_getI (pc := 1) r0 lRX5_15 dX5_cellsReadAs_1 (fun v1 => ?_)
  refine dn_if_eq (pc := 4) 18 dX5_cellsReadAs_4 rfl (fun _ => ?_) (fun _ => ?_)
  · exact dn_lv [] rfl (hj18)
  · refine dn_aload_n (pc := 7) r0 0 dX5_cellsReadAs_7 rfl ?_
    refine dn_getI (pc := 8) r0 lRX5_9 dX5_cellsReadAs_8 (fun v2 => ?_)
    refine dn_iload_n (pc := 11) 1 dX5_cellsReadAs_11 rfl ?_
    refine dn_callSN0Z (pc := 12) [.int v2, .int p1]  kRX5_90 (mX12_readsAs w x b v2 p1) rfl rfl (Nat.le_of_ble_eq_true rfl) ⟨(Nat.le_of_ble_eq_true rfl), (Nat.le_of_ble_eq_true rfl)⟩ ⟨rfl, rfl, (Nat.le_of_ble_eq_true rfl), (Nat.le_of_ble_eq_true rfl)⟩ dX5_cellsReadAs_12 (fun v3 => ?_)
    refine dn_ifz_eq (pc := 15) 22 dX5_cellsReadAs_15 rfl (fun _ => ?_) (fun _ => ?_)
    · exact dn_lv [] rfl (hj18)
    · refine dn_iconst (pc := 22) (v := 0) dX5_cellsReadAs_22 rfl ?_
      exact dn_ret (Nat.le_of_ble_eq_true rfl) (Nat.le_of_ble_eq_true rfl) rfl dX5_cellsReadAs_23
abbrev rmX9_firstUnreadable : Room := { frames := 3, cells := 0, slots := 0, locals := 63 }
def fX9_firstUnreadable_j36 (l0 : Option Nat) (l1 : Int32) (l2 : Int32) (l3 : Int32) : dnM ((Int32) ⊕ ((Unit) ⊕ Int32)) :=
  dnP (.inl (l3 + 1))
def fX9_firstUnreadable_b2 (c0 : Option Nat) (c1 : Int32) (c2 : Int32) (s2 : Int32) : dnM ((Int32) ⊕ ((Unit) ⊕ Int32)) :=
  dnB (dnGR c0 7 0) fun v1 =>
  dnB (dnAI v1 100 c1) fun v2 =>
  if v2 ≤ s2 then
  (dnP (.inr (.inl ())))
  else
  (dnB (dnCv c0 7 (fX9_rowAt c0 c1 s2)) fun v3 =>
  v3.elim
  (fX9_firstUnreadable_j36 c0 c1 c2 s2)
  (fun v4 => dnB (dnCv (some v4) 4 (fX5_cellsReadAs (some v4) c2)) fun v5 =>
  if v5 = true then
  (fX9_firstUnreadable_j36 c0 c1 c2 s2)
  else
  (dnP (.inr (.inr s2)))))
def fX9_firstUnreadable (r0 : Option Nat) (p1 : Int32) (p2 : Int32) : dnM Int32 :=
  dnB (dnIt 1000 (fX9_firstUnreadable_b2 r0 p1 p2) 0) fun q_ => q_.elim (fun q2 => dnP (-9)) (fun v_ => dnP v_)
abbrev jX9_firstUnreadable (w : dnWd) (x : dnX) (b : Nat) := dnD w x b (fun _ => True) cX9_firstUnreadable RX9 5 rmX9_firstUnreadable "firstUnreadable" eI
set_option maxHeartbeats 4000000 in
set_option maxRecDepth 100000 in
theorem mX9_firstUnreadable (w : dnWd) (x : dnX) (b : Nat) (r0 : Option Nat) (p1 : Int32) (p2 : Int32) : dnMt w x b yX9_firstUnreadable cX9_firstUnreadable 5 (some .int) rmX9_firstUnreadable eI [dnV b r0, .int p1, .int p2] (fX9_firstUnreadable r0 p1 p2) := by
  have hlv : lv_args 0 [dnV b r0, .int p1, .int p2] = [(0, dnV b r0), (1, .int p1), (2, .int p2)] := by cases r0 <;> rfl
  refine dn_mt (by decide +kernel) roI (by cases r0 <;> exact (Nat.le_of_ble_eq_true rfl)) ?_
  rw [hlv]
  refine dn_top ?_
  show jX9_firstUnreadable w x b 0 0 0 _ [] (dnB _ dnP)
  unfold fX9_firstUnreadable
  refine dn_iconst (pc := 0) (v := 0) dX9_firstUnreadable_0 rfl ?_
  refine dn_istore_n (pc := 1) dX9_firstUnreadable_1 (Nat.le_of_ble_eq_true rfl) (dnKp_nb 2 rfl rfl rfl (dnKp_of (lv2 := [(0, dnV b r0), (1, .int p1)]) [0, 1] rfl rfl)) ?_
  refine dn_assoc ?_
  refine dn_lv [2, 3, 1, 0] (lv2 := (fun s => [(0, dnV b r0), (1, .int p1), (2, .int p2), (3, .int s)]) 0) rfl ?_
  refine dn_loopR (pc := 2) (body := fX9_firstUnreadable_b2 r0 p1 p2) 42 (fun s => [(0, dnV b r0), (1, .int p1), (2, .int p2), (3, .int s)]) (fun q => []) (fun s2 K2 E2 hK2 hE2 hR2 => ?_) (dn_rt (Nat.le_of_ble_eq_true rfl) (Nat.le_of_ble_eq_true rfl) (fun _ => rfl)) (fun q2 => ?_) 1000 0
  · unfold fX9_firstUnreadable_b2
    have hj36 : ∀ (l3 : Int32), jX9_firstUnreadable w x b 36 0 0 [(0, dnV b r0), (1, .int p1), (2, .int p2), (3, .int l3)] [] (dnB (fX9_firstUnreadable_j36 r0 p1 p2 l3) (dnKo K2 E2)) := by
      intro l3
      unfold fX9_firstUnreadable_j36
      refine dn_iinc (pc := 36) (l3 + 1) 3 dX9_firstUnreadable_36 rfl rfl (Nat.le_of_ble_eq_true rfl) (dnKp_nb 2 rfl rfl rfl (dnKp_of (lv2 := [(0, dnV b r0), (1, .int p1)]) [0, 1] rfl rfl)) ?_
      refine dn_goto (pc := 39) 2 dX9_firstUnreadable_39 rfl ?_
      refine dn_leaf ?_
      exact dn_lv [2, 3, 1, 0] rfl (hK2 (l3 + 1))
    refine dn_iload_n (pc := 2) 3 dX9_firstUnreadable_2 rfl ?_
    refine dn_aload_n (pc := 3) r0 0 dX9_firstUnreadable_3 rfl ?_
    refine dn_getR (pc := 4) r0 lRX9_9 dX9_firstUnreadable_4 (fun v1 => ?_)
    refine dn_iload_n (pc := 7) 1 dX9_firstUnreadable_7 rfl ?_
    refine dn_iald (pc := 8) v1 dX9_firstUnreadable_8 (fun v2 => ?_)
    refine dn_icmp_ge (pc := 9) 42 dX9_firstUnreadable_9 rfl (fun _ => ?_) (fun _ => ?_)
    · refine dn_leaf ?_
      exact dn_lv [] rfl (hE2 ())
    · refine dn_aload_n (pc := 12) r0 0 dX9_firstUnreadable_12 rfl ?_
      refine dn_iload_n (pc := 13) 1 dX9_firstUnreadable_13 rfl ?_
      refine dn_iload_n (pc := 14) 3 dX9_firstUnreadable_14 rfl ?_
      refine dn_callV0R (pc := 15) [.int p1, .int s2] r0 kRX9_94 (mX9_rowAt w x b r0 p1 s2) rfl rfl (Nat.le_of_ble_eq_true rfl) ⟨(Nat.le_of_ble_eq_true rfl), (Nat.le_of_ble_eq_true rfl)⟩ ⟨rfl, rfl, (Nat.le_of_ble_eq_true rfl), (Nat.le_of_ble_eq_true rfl)⟩ dX9_firstUnreadable_15 (fun v3 => ?_)
      refine dn_astore (pc := 18) v3 dX9_firstUnreadable_18 (Nat.le_of_ble_eq_true rfl) (dnKp_nb 3 rfl rfl rfl (dnKp_of (lv2 := [(0, dnV b r0), (1, .int p1), (2, .int p2)]) [0, 1, 2] rfl rfl)) ?_
      refine dn_aload (pc := 20) v3 0 dX9_firstUnreadable_20 rfl ?_
      refine dn_ifnull (pc := 22) v3 36 dX9_firstUnreadable_22 rfl (fun e_ => ?_) (fun v4 e_ => ?_)
      · subst e_
        exact dn_lv [2, 3, 4, 1] rfl (hj36 s2)
      · subst e_
        refine dn_aload (pc := 25) (some v4) 0 dX9_firstUnreadable_25 rfl ?_
        refine dn_iload_n (pc := 27) 4 dX9_firstUnreadable_27 rfl ?_
        refine dn_callV0Z (pc := 28) [.int p2] (some v4) kRX9_114 (mX5_cellsReadAs w x b (some v4) p2) rfl rfl (Nat.le_of_ble_eq_true rfl) ⟨(Nat.le_of_ble_eq_true rfl), (Nat.le_of_ble_eq_true rfl)⟩ ⟨rfl, rfl, (Nat.le_of_ble_eq_true rfl), (Nat.le_of_ble_eq_true rfl)⟩ dX9_firstUnreadable_28 (fun v5 => ?_)
        refine dn_ifz_ne (pc := 31) 36 dX9_firstUnreadable_31 rfl (fun _ => ?_) (fun _ => ?_)
        · exact dn_lv [2, 3, 4, 1] rfl (hj36 s2)
        · refine dn_iload_n (pc := 34) 1 dX9_firstUnreadable_34 rfl ?_
          refine dn_leaf ?_
          exact hR2 s2 _ _ _ rfl dX9_firstUnreadable_35
  · dsimp only [Sum.elim_inl]
    refine dn_bipush (pc := 42) (v := -9) dX9_firstUnreadable_42 rfl ?_
    exact dn_ret (Nat.le_of_ble_eq_true rfl) (Nat.le_of_ble_eq_true rfl) rfl dX9_firstUnreadable_44
abbrev rmX9_longestRow : Room := { frames := 3, cells := 0, slots := 0, locals := 68 }
def fX9_longestRow_b4 (c0 : Option Nat) (c1 : Int32) (s4 : Int32 × Int32) : dnM ((Int32 × Int32) ⊕ (Int32)) :=
  dnB (dnGR c0 7 0) fun v1 =>
  dnB (dnAI v1 100 c1) fun v2 =>
  if v2 ≤ s4.2 then
  (dnP (.inr s4.1))
  else
  (dnB (dnCv c0 7 (fX9_cellsAt c0 c1 s4.2)) fun v3 =>
  dnB (fJ9_max_7cf53 s4.1 v3) fun v4 =>
  dnP (.inl (v4, (s4.2 + 1))))
def fX9_longestRow (r0 : Option Nat) (p1 : Int32) : dnM Int32 :=
  dnB (dnIt 1000 (fX9_longestRow_b4 r0 p1) (0, 0)) fun q4 =>
  dnP q4
abbrev jX9_longestRow (w : dnWd) (x : dnX) (b : Nat) := dnD w x b (fun _ => True) cX9_longestRow RX9 4 rmX9_longestRow "longestRow" eI
set_option maxHeartbeats 4000000 in
set_option maxRecDepth 100000 in
theorem mX9_longestRow (w : dnWd) (x : dnX) (b : Nat) (r0 : Option Nat) (p1 : Int32) : dnMt w x b yX9_longestRow cX9_longestRow 4 (some .int) rmX9_longestRow eI [dnV b r0, .int p1] (fX9_longestRow r0 p1) := by
  have hlv : lv_args 0 [dnV b r0, .int p1] = [(0, dnV b r0), (1, .int p1)] := by cases r0 <;> rfl
  refine dn_mt (by decide +kernel) roI (by cases r0 <;> exact (Nat.le_of_ble_eq_true rfl)) ?_
  rw [hlv]
  refine dn_top ?_
  show jX9_longestRow w x b 0 0 0 _ [] (dnB _ dnP)
  unfold fX9_longestRow
  refine dn_iconst (pc := 0) (v := 0) dX9_longestRow_0 rfl ?_
  refine dn_istore_n (pc := 1) dX9_longestRow_1 (Nat.le_of_ble_eq_true rfl) (dnKp_nb 1 rfl rfl rfl (dnKp_of (lv2 := [(0, dnV b r0)]) [0] rfl rfl)) ?_
  refine dn_iconst (pc := 2) (v := 0) dX9_longestRow_2 rfl ?_
  refine dn_istore_n (pc := 3) dX9_longestRow_3 (Nat.le_of_ble_eq_true rfl) (dnKp_nb 0 rfl rfl rfl (dnKp_of (lv2 := [(1, .int p1), (0, dnV b r0)]) [1, 2] rfl rfl)) ?_
  refine dn_assoc ?_
  refine dn_lv [3, 2, 1, 0] (lv2 := (fun s => [(0, dnV b r0), (1, .int p1), (2, .int s.1), (3, .int s.2)]) (0, 0)) rfl ?_
  refine dn_loopE (pc := 4) (body := fX9_longestRow_b4 r0 p1) 31 (fun s => [(0, dnV b r0), (1, .int p1), (2, .int s.1), (3, .int s.2)]) (fun q => [(2, .int q)]) (fun s4 K4 E4 hK4 hE4 => ?_) (fun q4 => ?_) 1000 (0, 0)
  · unfold fX9_longestRow_b4
    refine dn_iload_n (pc := 4) 3 dX9_longestRow_4 rfl ?_
    refine dn_aload_n (pc := 5) r0 0 dX9_longestRow_5 rfl ?_
    refine dn_getR (pc := 6) r0 lRX9_9 dX9_longestRow_6 (fun v1 => ?_)
    refine dn_iload_n (pc := 9) 1 dX9_longestRow_9 rfl ?_
    refine dn_iald (pc := 10) v1 dX9_longestRow_10 (fun v2 => ?_)
    refine dn_icmp_ge (pc := 11) 31 dX9_longestRow_11 rfl (fun _ => ?_) (fun _ => ?_)
    · refine dn_leaf ?_
      exact dn_lv [2] rfl (hE4 s4.1)
    · refine dn_iload_n (pc := 14) 2 dX9_longestRow_14 rfl ?_
      refine dn_aload_n (pc := 15) r0 0 dX9_longestRow_15 rfl ?_
      refine dn_iload_n (pc := 16) 1 dX9_longestRow_16 rfl ?_
      refine dn_iload_n (pc := 17) 3 dX9_longestRow_17 rfl ?_
      refine dn_callV0I (pc := 18) [.int p1, .int s4.2] r0 kRX9_106 (mX9_cellsAt w x b r0 p1 s4.2) rfl rfl (Nat.le_of_ble_eq_true rfl) ⟨(Nat.le_of_ble_eq_true rfl), (Nat.le_of_ble_eq_true rfl)⟩ ⟨rfl, rfl, (Nat.le_of_ble_eq_true rfl), (Nat.le_of_ble_eq_true rfl)⟩ dX9_longestRow_18 (fun v3 => ?_)
      refine dn_callS0I (pc := 21) [.int s4.1, .int v3]  kRX9_109 (mJ9_max_7cf53 w x b s4.1 v3) rfl rfl (Nat.le_of_ble_eq_true rfl) ⟨(Nat.le_of_ble_eq_true rfl), (Nat.le_of_ble_eq_true rfl)⟩ ⟨rfl, rfl, (Nat.le_of_ble_eq_true rfl), (Nat.le_of_ble_eq_true rfl)⟩ dX9_longestRow_21 (fun v4 => ?_)
      refine dn_istore_n (pc := 24) dX9_longestRow_24 (Nat.le_of_ble_eq_true rfl) (dnKp_nb 1 rfl rfl rfl (dnKp_of (lv2 := [(0, dnV b r0), (3, .int s4.2)]) [0, 3] rfl rfl)) ?_
      refine dn_iinc (pc := 25) (s4.2 + 1) 3 dX9_longestRow_25 rfl rfl (Nat.le_of_ble_eq_true rfl) (dnKp_nb 0 rfl rfl rfl (dnKp_of (lv2 := [(1, .int p1), (0, dnV b r0)]) [1, 2] rfl rfl)) ?_
      refine dn_goto (pc := 28) 4 dX9_longestRow_28 rfl ?_
      refine dn_leaf ?_
      exact dn_lv [3, 2, 1, 0] rfl (hK4 (v4, (s4.2 + 1)))
  · refine dn_iload_n (pc := 31) 0 dX9_longestRow_31 rfl ?_
    exact dn_ret (Nat.le_of_ble_eq_true rfl) (Nat.le_of_ble_eq_true rfl) rfl dX9_longestRow_32
abbrev rmX11_multiply : Room := { frames := 4, cells := 0, slots := 0, locals := 93 }
def fX11_multiply_j194 (l0 : Option Nat) (l1 : Int32) (l2 : Int32) (l3 : Int32) (l5 : Int32) (l6 : Int32) : dnM ((Int32) ⊕ (Unit)) :=
  dnP (.inl (l6 + 1))
def fX11_multiply_b144 (c0 : Option Nat) (c1 : Int32) (c2 : Int32) (c3 : Int32) (c5 : Int32) (s144 : Int32) : dnM ((Int32) ⊕ (Unit)) :=
  dnB (dnGR c0 9 0) fun v8 =>
  dnB (dnGR v8 7 0) fun v9 =>
  dnB (dnAI v9 100 c1) fun v10 =>
  if v10 ≤ s144 then
  (dnP (.inr ()))
  else
  (dnB (dnGR c0 9 0) fun v11 =>
  dnB (dnCv v11 7 (fX9_rowAt v11 c1 s144)) fun v12 =>
  v12.elim
  (fX11_multiply_j194 c0 c1 c2 c3 c5 s144)
  (fun v13 => dnB (dnGR c0 9 0) fun v14 =>
  dnB (dnCv v14 7 (fX9_rowOfNewGrid v14 s144 5 c5)) fun v15 =>
  dnB (dnCv c0 9 (fX11_addProducts c0 v15 (some v13) c2)) fun _ =>
  fX11_multiply_j194 c0 c1 c2 c3 c5 s144))
def fX11_multiply_j96 (l0 : Option Nat) (l1 : Int32) (l2 : Int32) (l3 : Int32) (l4 : Int32) : dnM Int32 :=
  if l4 = (-9) then
  (dnB (dnGR l0 9 0) fun v1 =>
  dnB (dnCv v1 7 (fX9_longestRow v1 l2)) fun v2 =>
  dnB (dnGR l0 9 0) fun v3 =>
  dnB (dnGR l0 9 0) fun v4 =>
  dnB (dnGR v4 7 0) fun v5 =>
  dnB (dnAI v5 100 l1) fun v6 =>
  dnB (dnCv v3 7 (fX9_startGrid v3 v6)) fun _ =>
  dnB (dnIt 1000 (fX11_multiply_b144 l0 l1 l2 l3 v2) 0) fun q144 =>
  dnB (dnGR l0 9 0) fun v17 =>
  dnB (dnCv v17 7 (fX9_finishGrid v17 l3)) fun v18 =>
  dnP v18)
  else
  (dnB (dnGR l0 9 1) fun v19 =>
  dnB (dnPI v19 1 1 l4) fun _ =>
  dnP (-7))
def fX11_multiply (r0 : Option Nat) (p1 : Int32) (p2 : Int32) (p3 : Int32) : dnM Int32 :=
  dnB (fX12_isGrid p1) fun v20 =>
  if v20 = true then
  (dnB (fX12_isGrid p2) fun v21 =>
  if v21 = true then
  (dnB (fX12_isGrid p3) fun v22 =>
  if v22 = true then
  (dnB (dnGR r0 9 0) fun v23 =>
  dnB (dnGR v23 7 0) fun v24 =>
  dnB (dnAI v24 100 p1) fun v25 =>
  if v25 < 0 then
  (dnP (-2))
  else
  (dnB (dnGR r0 9 0) fun v26 =>
  dnB (dnGR v26 7 0) fun v27 =>
  dnB (dnAI v27 100 p2) fun v28 =>
  if 0 ≤ v28 then
  (dnB (dnGR r0 9 0) fun v29 =>
  dnB (dnCv v29 7 (fX9_firstUnreadable v29 p1 5)) fun v30 =>
  if ¬ v30 = (-9) then
  (fX11_multiply_j96 r0 p1 p2 p3 v30)
  else
  (dnB (dnGR r0 9 0) fun v31 =>
  dnB (dnCv v31 7 (fX9_firstUnreadable v31 p2 5)) fun v32 =>
  if v32 = (-9) then
  (fX11_multiply_j96 r0 p1 p2 p3 v30)
  else
  (dnB (dnGR r0 9 0) fun v33 =>
  dnB (dnCv v33 7 (fX9_firstUnreadable v33 p2 5)) fun v34 =>
  fX11_multiply_j96 r0 p1 p2 p3 (10 + v34))))
  else
  (dnP (-2))))
  else
  (dnP (-1)))
  else
  (dnP (-1)))
  else
  (dnP (-1))
abbrev jX11_multiply (w : dnWd) (x : dnX) (b : Nat) := dnD w x b (fun _ => True) cX11_multiply RX11 8 rmX11_multiply "multiply" eI
set_option maxHeartbeats 4000000 in
set_option maxRecDepth 100000 in
theorem mX11_multiply (w : dnWd) (x : dnX) (b : Nat) (r0 : Option Nat) (p1 : Int32) (p2 : Int32) (p3 : Int32) : dnMt w x b yX11_multiply cX11_multiply 8 (some .int) rmX11_multiply eI [dnV b r0, .int p1, .int p2, .int p3] (fX11_multiply r0 p1 p2 p3) := by
  have hlv : lv_args 0 [dnV b r0, .int p1, .int p2, .int p3] = [(0, dnV b r0), (1, .int p1), (2, .int p2), (3, .int p3)] := by cases r0 <;> rfl
  refine dn_mt (by decide +kernel) roI (by cases r0 <;> exact (Nat.le_of_ble_eq_true rfl)) ?_
  rw [hlv]
  refine dn_top ?_
  show jX11_multiply w x b 0 0 0 _ [] (dnB _ dnP)
  unfold fX11_multiply
  have hj96 : ∀ (l0 : Option Nat) (l1 : Int32) (l2 : Int32) (l3 : Int32) (l4 : Int32), jX11_multiply w x b 96 0 0 [(0, dnV b l0), (1, .int l1), (2, .int l2), (3, .int l3), (4, .int l4)] [] (dnB (fX11_multiply_j96 l0 l1 l2 l3 l4) dnP) := by
    intro l0 l1 l2 l3 l4
    unfold fX11_multiply_j96
    refine dn_iload (pc := 96) 4 dX11_multiply_96 rfl ?_
    refine dn_bipush (pc := 98) (v := -9) dX11_multiply_98 rfl ?_
    refine dn_icmp_eq (pc := 100) 115 dX11_multiply_100 rfl (fun _ => ?_) (fun _ => ?_)
    · refine dn_aload_n (pc := 115) l0 0 dX11_multiply_115 rfl ?_
      refine dn_getR (pc := 116) l0 lRX11_9 dX11_multiply_116 (fun v1 => ?_)
      refine dn_iload_n (pc := 119) 2 dX11_multiply_119 rfl ?_
      refine dn_callV0I (pc := 120) [.int l2] v1 kRX11_85 (mX9_longestRow w x b v1 l2) rfl rfl (Nat.le_of_ble_eq_true rfl) ⟨(Nat.le_of_ble_eq_true rfl), (Nat.le_of_ble_eq_true rfl)⟩ ⟨rfl, rfl, (Nat.le_of_ble_eq_true rfl), (Nat.le_of_ble_eq_true rfl)⟩ dX11_multiply_120 (fun v2 => ?_)
      refine dn_istore (pc := 123) dX11_multiply_123 (Nat.le_of_ble_eq_true rfl) (dnKp_of (lv2 := [(0, dnV b l0), (1, .int l1), (2, .int l2), (3, .int l3)]) [0, 1, 2, 3] rfl rfl) ?_
      refine dn_aload_n (pc := 125) l0 1 dX11_multiply_125 rfl ?_
      refine dn_getR (pc := 126) l0 lRX11_9 dX11_multiply_126 (fun v3 => ?_)
      refine dn_aload_n (pc := 129) l0 1 dX11_multiply_129 rfl ?_
      refine dn_getR (pc := 130) l0 lRX11_9 dX11_multiply_130 (fun v4 => ?_)
      refine dn_getR (pc := 133) v4 lRX11_33 dX11_multiply_133 (fun v5 => ?_)
      refine dn_iload_n (pc := 136) 2 dX11_multiply_136 rfl ?_
      refine dn_iald (pc := 137) v5 dX11_multiply_137 (fun v6 => ?_)
      refine dn_callV0U (pc := 138) [.int v6] v3 kRX11_69 (mX9_startGrid w x b v3 v6) rfl rfl (Nat.le_of_ble_eq_true rfl) ⟨(Nat.le_of_ble_eq_true rfl), (Nat.le_of_ble_eq_true rfl)⟩ ⟨rfl, rfl, (Nat.le_of_ble_eq_true rfl), (Nat.le_of_ble_eq_true rfl)⟩ dX11_multiply_138 (fun _ => ?_)
      refine dn_iconst (pc := 141) (v := 0) dX11_multiply_141 rfl ?_
      refine dn_istore (pc := 142) dX11_multiply_142 (Nat.le_of_ble_eq_true rfl) (dnKp_nb 0 rfl rfl rfl (dnKp_of (lv2 := [(0, dnV b l0), (1, .int l1), (2, .int l2), (3, .int l3)]) [1, 2, 3, 4] rfl rfl)) ?_
      refine dn_assoc ?_
      refine dn_lv [2, 3, 4, 5, 1, 0] (lv2 := (fun s => [(0, dnV b l0), (1, .int l1), (2, .int l2), (3, .int l3), (5, .int v2), (6, .int s)]) 0) rfl ?_
      refine dn_loopE (pc := 144) (body := fX11_multiply_b144 l0 l1 l2 l3 v2) 200 (fun s => [(0, dnV b l0), (1, .int l1), (2, .int l2), (3, .int l3), (5, .int v2), (6, .int s)]) (fun q => [(0, dnV b l0), (3, .int l3)]) (fun s144 K144 E144 hK144 hE144 => ?_) (fun q144 => ?_) 1000 0
      · unfold fX11_multiply_b144
        have hj194 : ∀ (l6 : Int32), jX11_multiply w x b 194 0 0 [(0, dnV b l0), (1, .int l1), (2, .int l2), (3, .int l3), (5, .int v2), (6, .int l6)] [] (dnB (fX11_multiply_j194 l0 l1 l2 l3 v2 l6) (dnKo K144 E144)) := by
          intro l6
          unfold fX11_multiply_j194
          refine dn_iinc (pc := 194) (l6 + 1) 5 dX11_multiply_194 rfl rfl (Nat.le_of_ble_eq_true rfl) (dnKp_nb 4 rfl rfl rfl (dnKp_of (lv2 := [(0, dnV b l0), (1, .int l1), (2, .int l2), (3, .int l3)]) [0, 1, 2, 3] rfl rfl)) ?_
          refine dn_goto (pc := 197) 144 dX11_multiply_197 rfl ?_
          refine dn_leaf ?_
          exact dn_lv [2, 3, 4, 5, 1, 0] rfl (hK144 (l6 + 1))
        refine dn_iload (pc := 144) 5 dX11_multiply_144 rfl ?_
        refine dn_aload_n (pc := 146) l0 0 dX11_multiply_146 rfl ?_
        refine dn_getR (pc := 147) l0 lRX11_9 dX11_multiply_147 (fun v8 => ?_)
        refine dn_getR (pc := 150) v8 lRX11_33 dX11_multiply_150 (fun v9 => ?_)
        refine dn_iload_n (pc := 153) 1 dX11_multiply_153 rfl ?_
        refine dn_iald (pc := 154) v9 dX11_multiply_154 (fun v10 => ?_)
        refine dn_icmp_ge (pc := 155) 200 dX11_multiply_155 rfl (fun _ => ?_) (fun _ => ?_)
        · refine dn_leaf ?_
          exact dn_lv [0, 3] rfl (hE144 ())
        · refine dn_aload_n (pc := 158) l0 0 dX11_multiply_158 rfl ?_
          refine dn_getR (pc := 159) l0 lRX11_9 dX11_multiply_159 (fun v11 => ?_)
          refine dn_iload_n (pc := 162) 1 dX11_multiply_162 rfl ?_
          refine dn_iload (pc := 163) 5 dX11_multiply_163 rfl ?_
          refine dn_callV0R (pc := 165) [.int l1, .int s144] v11 kRX11_37 (mX9_rowAt w x b v11 l1 s144) rfl rfl (Nat.le_of_ble_eq_true rfl) ⟨(Nat.le_of_ble_eq_true rfl), (Nat.le_of_ble_eq_true rfl)⟩ ⟨rfl, rfl, (Nat.le_of_ble_eq_true rfl), (Nat.le_of_ble_eq_true rfl)⟩ dX11_multiply_165 (fun v12 => ?_)
          refine dn_astore (pc := 168) v12 dX11_multiply_168 (Nat.le_of_ble_eq_true rfl) (dnKp_nb 5 rfl rfl rfl (dnKp_of (lv2 := [(0, dnV b l0), (1, .int l1), (2, .int l2), (3, .int l3), (5, .int v2)]) [0, 1, 2, 3, 4] rfl rfl)) ?_
          refine dn_aload (pc := 170) v12 0 dX11_multiply_170 rfl ?_
          refine dn_ifnull (pc := 172) v12 194 dX11_multiply_172 rfl (fun e_ => ?_) (fun v13 e_ => ?_)
          · subst e_
            exact dn_lv [2, 3, 4, 5, 6, 1] rfl (hj194 s144)
          · subst e_
            refine dn_aload_n (pc := 175) l0 2 dX11_multiply_175 rfl ?_
            refine dn_aload_n (pc := 176) l0 2 dX11_multiply_176 rfl ?_
            refine dn_getR (pc := 177) l0 lRX11_9 dX11_multiply_177 (fun v14 => ?_)
            refine dn_iload (pc := 180) 1 dX11_multiply_180 rfl ?_
            refine dn_iconst (pc := 182) (v := 5) dX11_multiply_182 rfl ?_
            refine dn_iload (pc := 183) 6 dX11_multiply_183 rfl ?_
            refine dn_callV0R (pc := 185) [.int s144, .int 5, .int v2] v14 kRX11_78 (mX9_rowOfNewGrid w x b v14 s144 5 v2) rfl rfl (Nat.le_of_ble_eq_true rfl) ⟨(Nat.le_of_ble_eq_true rfl), (Nat.le_of_ble_eq_true rfl)⟩ ⟨rfl, rfl, (Nat.le_of_ble_eq_true rfl), (Nat.le_of_ble_eq_true rfl)⟩ dX11_multiply_185 (fun v15 => ?_)
            refine dn_aload (pc := 188) (some v13) 0 dX11_multiply_188 rfl ?_
            refine dn_iload_n (pc := 190) 4 dX11_multiply_190 rfl ?_
            refine dn_callV0U (pc := 191) [dnV b v15, dnV b (some v13), .int l2] l0 kRX11_107 (mX11_addProducts w x b l0 v15 (some v13) l2) rfl rfl (Nat.le_of_ble_eq_true rfl) ⟨(Nat.le_of_ble_eq_true rfl), (Nat.le_of_ble_eq_true rfl)⟩ ⟨rfl, rfl, (Nat.le_of_ble_eq_true rfl), (Nat.le_of_ble_eq_true rfl)⟩ dX11_multiply_191 (fun _ => ?_)
            exact dn_lv [2, 3, 4, 5, 6, 1] rfl (hj194 s144)
      · refine dn_aload_n (pc := 200) l0 0 dX11_multiply_200 rfl ?_
        refine dn_getR (pc := 201) l0 lRX11_9 dX11_multiply_201 (fun v17 => ?_)
        refine dn_iload_n (pc := 204) 1 dX11_multiply_204 rfl ?_
        refine dn_callV0I (pc := 205) [.int l3] v17 kRX11_82 (mX9_finishGrid w x b v17 l3) rfl rfl (Nat.le_of_ble_eq_true rfl) ⟨(Nat.le_of_ble_eq_true rfl), (Nat.le_of_ble_eq_true rfl)⟩ ⟨rfl, rfl, (Nat.le_of_ble_eq_true rfl), (Nat.le_of_ble_eq_true rfl)⟩ dX11_multiply_205 (fun v18 => ?_)
        exact dn_ret (Nat.le_of_ble_eq_true rfl) (Nat.le_of_ble_eq_true rfl) rfl dX11_multiply_208
    · refine dn_aload_n (pc := 103) l0 0 dX11_multiply_103 rfl ?_
      refine dn_getR (pc := 104) l0 lRX11_15 dX11_multiply_104 (fun v19 => ?_)
      refine dn_iload (pc := 107) 4 dX11_multiply_107 rfl ?_
      refine dn_putI (pc := 109) v19 lRX11_102 dX11_multiply_109 ?_
      refine dn_bipush (pc := 112) (v := -7) dX11_multiply_112 rfl ?_
      exact dn_ret (Nat.le_of_ble_eq_true rfl) (Nat.le_of_ble_eq_true rfl) rfl dX11_multiply_114
  refine dn_iload_n (pc := 0) 1 dX11_multiply_0 rfl ?_
  refine dn_callSN0Z (pc := 1) [.int p1]  kRX11_19 (mX12_isGrid w x b p1) rfl rfl (Nat.le_of_ble_eq_true rfl) ⟨(Nat.le_of_ble_eq_true rfl), (Nat.le_of_ble_eq_true rfl)⟩ ⟨rfl, rfl, (Nat.le_of_ble_eq_true rfl), (Nat.le_of_ble_eq_true rfl)⟩ dX11_multiply_1 (fun v20 => ?_)
  refine dn_ifz_eq (pc := 4) 21 dX11_multiply_4 rfl (fun _ => ?_) (fun _ => ?_)
  · refine dn_iload_n (pc := 7) 2 dX11_multiply_7 rfl ?_
    refine dn_callSN0Z (pc := 8) [.int p2]  kRX11_19 (mX12_isGrid w x b p2) rfl rfl (Nat.le_of_ble_eq_true rfl) ⟨(Nat.le_of_ble_eq_true rfl), (Nat.le_of_ble_eq_true rfl)⟩ ⟨rfl, rfl, (Nat.le_of_ble_eq_true rfl), (Nat.le_of_ble_eq_true rfl)⟩ dX11_multiply_8 (fun v21 => ?_)
    refine dn_ifz_eq (pc := 11) 21 dX11_multiply_11 rfl (fun _ => ?_) (fun _ => ?_)
    · refine dn_iload_n (pc := 14) 3 dX11_multiply_14 rfl ?_
      refine dn_callSN0Z (pc := 15) [.int p3]  kRX11_19 (mX12_isGrid w x b p3) rfl rfl (Nat.le_of_ble_eq_true rfl) ⟨(Nat.le_of_ble_eq_true rfl), (Nat.le_of_ble_eq_true rfl)⟩ ⟨rfl, rfl, (Nat.le_of_ble_eq_true rfl), (Nat.le_of_ble_eq_true rfl)⟩ dX11_multiply_15 (fun v22 => ?_)
      refine dn_ifz_ne (pc := 18) 23 dX11_multiply_18 rfl (fun _ => ?_) (fun _ => ?_)
      · refine dn_aload_n (pc := 23) r0 0 dX11_multiply_23 rfl ?_
        refine dn_getR (pc := 24) r0 lRX11_9 dX11_multiply_24 (fun v23 => ?_)
        refine dn_getR (pc := 27) v23 lRX11_33 dX11_multiply_27 (fun v24 => ?_)
        refine dn_iload_n (pc := 30) 1 dX11_multiply_30 rfl ?_
        refine dn_iald (pc := 31) v24 dX11_multiply_31 (fun v25 => ?_)
        refine dn_if_lt (pc := 32) 47 dX11_multiply_32 rfl (fun _ => ?_) (fun _ => ?_)
        · refine dn_bipush (pc := 47) (v := -2) dX11_multiply_47 rfl ?_
          exact dn_ret (Nat.le_of_ble_eq_true rfl) (Nat.le_of_ble_eq_true rfl) rfl dX11_multiply_49
        · refine dn_aload_n (pc := 35) r0 0 dX11_multiply_35 rfl ?_
          refine dn_getR (pc := 36) r0 lRX11_9 dX11_multiply_36 (fun v26 => ?_)
          refine dn_getR (pc := 39) v26 lRX11_33 dX11_multiply_39 (fun v27 => ?_)
          refine dn_iload_n (pc := 42) 2 dX11_multiply_42 rfl ?_
          refine dn_iald (pc := 43) v27 dX11_multiply_43 (fun v28 => ?_)
          refine dn_if_ge (pc := 44) 50 dX11_multiply_44 rfl (fun _ => ?_) (fun _ => ?_)
          · refine dn_aload_n (pc := 50) r0 0 dX11_multiply_50 rfl ?_
            refine dn_getR (pc := 51) r0 lRX11_9 dX11_multiply_51 (fun v29 => ?_)
            refine dn_iload_n (pc := 54) 1 dX11_multiply_54 rfl ?_
            refine dn_iconst (pc := 55) (v := 5) dX11_multiply_55 rfl ?_
            refine dn_callV0I (pc := 56) [.int p1, .int 5] v29 kRX11_99 (mX9_firstUnreadable w x b v29 p1 5) rfl rfl (Nat.le_of_ble_eq_true rfl) ⟨(Nat.le_of_ble_eq_true rfl), (Nat.le_of_ble_eq_true rfl)⟩ ⟨rfl, rfl, (Nat.le_of_ble_eq_true rfl), (Nat.le_of_ble_eq_true rfl)⟩ dX11_multiply_56 (fun v30 => ?_)
            refine dn_istore (pc := 59) dX11_multiply_59 (Nat.le_of_ble_eq_true rfl) (dnKp_nb 3 rfl rfl rfl (dnKp_of (lv2 := [(0, dnV b r0), (1, .int p1), (2, .int p2)]) [0, 1, 2] rfl rfl)) ?_
            refine dn_iload (pc := 61) 0 dX11_multiply_61 rfl ?_
            refine dn_bipush (pc := 63) (v := -9) dX11_multiply_63 rfl ?_
            refine dn_icmp_ne (pc := 65) 96 dX11_multiply_65 rfl (fun _ => ?_) (fun _ => ?_)
            · exact dn_lv [2, 3, 4, 1, 0] rfl (hj96 r0 p1 p2 p3 v30)
            · refine dn_aload_n (pc := 68) r0 2 dX11_multiply_68 rfl ?_
              refine dn_getR (pc := 69) r0 lRX11_9 dX11_multiply_69 (fun v31 => ?_)
              refine dn_iload_n (pc := 72) 4 dX11_multiply_72 rfl ?_
              refine dn_iconst (pc := 73) (v := 5) dX11_multiply_73 rfl ?_
              refine dn_callV0I (pc := 74) [.int p2, .int 5] v31 kRX11_99 (mX9_firstUnreadable w x b v31 p2 5) rfl rfl (Nat.le_of_ble_eq_true rfl) ⟨(Nat.le_of_ble_eq_true rfl), (Nat.le_of_ble_eq_true rfl)⟩ ⟨rfl, rfl, (Nat.le_of_ble_eq_true rfl), (Nat.le_of_ble_eq_true rfl)⟩ dX11_multiply_74 (fun v32 => ?_)
              refine dn_bipush (pc := 77) (v := -9) dX11_multiply_77 rfl ?_
              refine dn_icmp_eq (pc := 79) 96 dX11_multiply_79 rfl (fun _ => ?_) (fun _ => ?_)
              · exact dn_lv [2, 3, 4, 1, 0] rfl (hj96 r0 p1 p2 p3 v30)
              · refine dn_bipush (pc := 82) (v := 10) dX11_multiply_82 rfl ?_
                refine dn_aload_n (pc := 84) r0 2 dX11_multiply_84 rfl ?_
                refine dn_getR (pc := 85) r0 lRX11_9 dX11_multiply_85 (fun v33 => ?_)
                refine dn_iload_n (pc := 88) 4 dX11_multiply_88 rfl ?_
                refine dn_iconst (pc := 89) (v := 5) dX11_multiply_89 rfl ?_
                refine dn_callV0I (pc := 90) [.int p2, .int 5] v33 kRX11_99 (mX9_firstUnreadable w x b v33 p2 5) rfl rfl (Nat.le_of_ble_eq_true rfl) ⟨(Nat.le_of_ble_eq_true rfl), (Nat.le_of_ble_eq_true rfl)⟩ ⟨rfl, rfl, (Nat.le_of_ble_eq_true rfl), (Nat.le_of_ble_eq_true rfl)⟩ dX11_multiply_90 (fun v34 => ?_)
                refine dn_iadd (pc := 93) dX11_multiply_93 ?_
                refine dn_istore (pc := 94) dX11_multiply_94 (Nat.le_of_ble_eq_true rfl) (dnKp_nb 1 rfl rfl rfl (dnKp_of (lv2 := [(0, dnV b r0), (1, .int p1), (2, .int p2)]) [2, 3, 4] rfl rfl)) ?_
                exact dn_lv [2, 3, 4, 1, 0] rfl (hj96 r0 p1 p2 p3 (10 + v34))
          · refine dn_bipush (pc := 47) (v := -2) dX11_multiply_47 rfl ?_
            exact dn_ret (Nat.le_of_ble_eq_true rfl) (Nat.le_of_ble_eq_true rfl) rfl dX11_multiply_49
      · refine dn_iconst (pc := 21) (v := -1) dX11_multiply_21 rfl ?_
        exact dn_ret (Nat.le_of_ble_eq_true rfl) (Nat.le_of_ble_eq_true rfl) rfl dX11_multiply_22
    · refine dn_iconst (pc := 21) (v := -1) dX11_multiply_21 rfl ?_
      exact dn_ret (Nat.le_of_ble_eq_true rfl) (Nat.le_of_ble_eq_true rfl) rfl dX11_multiply_22
  · refine dn_iconst (pc := 21) (v := -1) dX11_multiply_21 rfl ?_
    exact dn_ret (Nat.le_of_ble_eq_true rfl) (Nat.le_of_ble_eq_true rfl) rfl dX11_multiply_22
abbrev rmX11_transpose : Room := { frames := 5, cells := 0, slots := 0, locals := 121 }
def fX11_transpose_b63 (c0 : Option Nat) (c1 : Int32) (c2 : Int32) (c4 : Int32) (s63 : Int32) : dnM ((Int32) ⊕ (Unit)) :=
  if c4 ≤ s63 then
  (dnP (.inr ()))
  else
  (dnB (dnCv c0 9 (fX11_makeColumn c0 c1 s63)) fun _ =>
  dnP (.inl (s63 + 1)))
def fX11_transpose (r0 : Option Nat) (p1 : Int32) (p2 : Int32) : dnM Int32 :=
  dnB (fX12_isGrid p1) fun v1 =>
  if v1 = true then
  (dnB (fX12_isGrid p2) fun v2 =>
  if v2 = true then
  (dnB (dnGR r0 9 0) fun v3 =>
  dnB (dnCv v3 7 (fX9_gridFault v3 p1)) fun v4 =>
  if 0 ≤ v4 then
  (dnB (dnGR r0 9 0) fun v5 =>
  dnB (dnCv v5 7 (fX9_longestRow v5 p1)) fun v6 =>
  if v6 ≤ 6 then
  (dnB (dnGR r0 9 0) fun v7 =>
  dnB (dnCv v7 7 (fX9_startGrid v7 v6)) fun _ =>
  dnB (dnIt 1000 (fX11_transpose_b63 r0 p1 p2 v6) 0) fun q63 =>
  dnB (dnGR r0 9 0) fun v10 =>
  dnB (dnCv v10 7 (fX9_finishGrid v10 p2)) fun v11 =>
  dnP v11)
  else
  (dnP (-10)))
  else
  (dnP v4))
  else
  (dnP (-1)))
  else
  (dnP (-1))
abbrev jX11_transpose (w : dnWd) (x : dnX) (b : Nat) := dnD w x b (fun _ => True) cX11_transpose RX11 6 rmX11_transpose "transpose" eI
set_option maxHeartbeats 4000000 in
set_option maxRecDepth 100000 in
theorem mX11_transpose (w : dnWd) (x : dnX) (b : Nat) (r0 : Option Nat) (p1 : Int32) (p2 : Int32) : dnMt w x b yX11_transpose cX11_transpose 6 (some .int) rmX11_transpose eI [dnV b r0, .int p1, .int p2] (fX11_transpose r0 p1 p2) := by
  have hlv : lv_args 0 [dnV b r0, .int p1, .int p2] = [(0, dnV b r0), (1, .int p1), (2, .int p2)] := by cases r0 <;> rfl
  refine dn_mt (by decide +kernel) roI (by cases r0 <;> exact (Nat.le_of_ble_eq_true rfl)) ?_
  rw [hlv]
  refine dn_top ?_
  show jX11_transpose w x b 0 0 0 _ [] (dnB _ dnP)
  unfold fX11_transpose
  refine dn_iload_n (pc := 0) 1 dX11_transpose_0 rfl ?_
  refine dn_callSN0Z (pc := 1) [.int p1]  kRX11_19 (mX12_isGrid w x b p1) rfl rfl (Nat.le_of_ble_eq_true rfl) ⟨(Nat.le_of_ble_eq_true rfl), (Nat.le_of_ble_eq_true rfl)⟩ ⟨rfl, rfl, (Nat.le_of_ble_eq_true rfl), (Nat.le_of_ble_eq_true rfl)⟩ dX11_transpose_1 (fun v1 => ?_)
  refine dn_ifz_eq (pc := 4) 14 dX11_transpose_4 rfl (fun _ => ?_) (fun _ => ?_)
  · refine dn_iload_n (pc := 7) 2 dX11_transpose_7 rfl ?_
    refine dn_callSN0Z (pc := 8) [.int p2]  kRX11_19 (mX12_isGrid w x b p2) rfl rfl (Nat.le_of_ble_eq_true rfl) ⟨(Nat.le_of_ble_eq_true rfl), (Nat.le_of_ble_eq_true rfl)⟩ ⟨rfl, rfl, (Nat.le_of_ble_eq_true rfl), (Nat.le_of_ble_eq_true rfl)⟩ dX11_transpose_8 (fun v2 => ?_)
    refine dn_ifz_ne (pc := 11) 16 dX11_transpose_11 rfl (fun _ => ?_) (fun _ => ?_)
    · refine dn_aload_n (pc := 16) r0 0 dX11_transpose_16 rfl ?_
      refine dn_getR (pc := 17) r0 lRX11_9 dX11_transpose_17 (fun v3 => ?_)
      refine dn_iload_n (pc := 20) 1 dX11_transpose_20 rfl ?_
      refine dn_callV0I (pc := 21) [.int p1] v3 kRX11_23 (mX9_gridFault w x b v3 p1) rfl rfl (Nat.le_of_ble_eq_true rfl) ⟨(Nat.le_of_ble_eq_true rfl), (Nat.le_of_ble_eq_true rfl)⟩ ⟨rfl, rfl, (Nat.le_of_ble_eq_true rfl), (Nat.le_of_ble_eq_true rfl)⟩ dX11_transpose_21 (fun v4 => ?_)
      refine dn_istore_n (pc := 24) dX11_transpose_24 (Nat.le_of_ble_eq_true rfl) (dnKp_nb 2 rfl rfl rfl (dnKp_of (lv2 := [(0, dnV b r0), (1, .int p1)]) [0, 1] rfl rfl)) ?_
      refine dn_iload_n (pc := 25) 0 dX11_transpose_25 rfl ?_
      refine dn_if_ge (pc := 26) 31 dX11_transpose_26 rfl (fun _ => ?_) (fun _ => ?_)
      · refine dn_aload_n (pc := 31) r0 2 dX11_transpose_31 rfl ?_
        refine dn_getR (pc := 32) r0 lRX11_9 dX11_transpose_32 (fun v5 => ?_)
        refine dn_iload_n (pc := 35) 3 dX11_transpose_35 rfl ?_
        refine dn_callV0I (pc := 36) [.int p1] v5 kRX11_85 (mX9_longestRow w x b v5 p1) rfl rfl (Nat.le_of_ble_eq_true rfl) ⟨(Nat.le_of_ble_eq_true rfl), (Nat.le_of_ble_eq_true rfl)⟩ ⟨rfl, rfl, (Nat.le_of_ble_eq_true rfl), (Nat.le_of_ble_eq_true rfl)⟩ dX11_transpose_36 (fun v6 => ?_)
        refine dn_istore (pc := 39) dX11_transpose_39 (Nat.le_of_ble_eq_true rfl) (dnKp_of (lv2 := [(2, .int p2), (0, dnV b r0), (1, .int p1)]) [1, 2, 3] rfl rfl) ?_
        refine dn_iload (pc := 41) 0 dX11_transpose_41 rfl ?_
        refine dn_bipush (pc := 43) (v := 6) dX11_transpose_43 rfl ?_
        refine dn_icmp_le (pc := 45) 51 dX11_transpose_45 rfl (fun _ => ?_) (fun _ => ?_)
        · refine dn_aload_n (pc := 51) r0 2 dX11_transpose_51 rfl ?_
          refine dn_getR (pc := 52) r0 lRX11_9 dX11_transpose_52 (fun v7 => ?_)
          refine dn_iload (pc := 55) 0 dX11_transpose_55 rfl ?_
          refine dn_callV0U (pc := 57) [.int v6] v7 kRX11_69 (mX9_startGrid w x b v7 v6) rfl rfl (Nat.le_of_ble_eq_true rfl) ⟨(Nat.le_of_ble_eq_true rfl), (Nat.le_of_ble_eq_true rfl)⟩ ⟨rfl, rfl, (Nat.le_of_ble_eq_true rfl), (Nat.le_of_ble_eq_true rfl)⟩ dX11_transpose_57 (fun _ => ?_)
          refine dn_iconst (pc := 60) (v := 0) dX11_transpose_60 rfl ?_
          refine dn_istore (pc := 61) dX11_transpose_61 (Nat.le_of_ble_eq_true rfl) (dnKp_nb 0 rfl rfl rfl (dnKp_of (lv2 := [(2, .int p2), (0, dnV b r0), (1, .int p1)]) [1, 2, 3] rfl rfl)) ?_
          refine dn_assoc ?_
          refine dn_lv [3, 4, 2, 1, 0] (lv2 := (fun s => [(0, dnV b r0), (1, .int p1), (2, .int p2), (4, .int v6), (5, .int s)]) 0) rfl ?_
          refine dn_loopE (pc := 63) (body := fX11_transpose_b63 r0 p1 p2 v6) 83 (fun s => [(0, dnV b r0), (1, .int p1), (2, .int p2), (4, .int v6), (5, .int s)]) (fun q => [(0, dnV b r0), (2, .int p2)]) (fun s63 K63 E63 hK63 hE63 => ?_) (fun q63 => ?_) 1000 0
          · unfold fX11_transpose_b63
            refine dn_iload (pc := 63) 4 dX11_transpose_63 rfl ?_
            refine dn_iload (pc := 65) 3 dX11_transpose_65 rfl ?_
            refine dn_icmp_ge (pc := 67) 83 dX11_transpose_67 rfl (fun _ => ?_) (fun _ => ?_)
            · refine dn_leaf ?_
              exact dn_lv [0, 2] rfl (hE63 ())
            · refine dn_aload_n (pc := 70) r0 0 dX11_transpose_70 rfl ?_
              refine dn_iload_n (pc := 71) 1 dX11_transpose_71 rfl ?_
              refine dn_iload (pc := 72) 4 dX11_transpose_72 rfl ?_
              refine dn_callV0U (pc := 74) [.int p1, .int s63] r0 kRX11_88 (mX11_makeColumn w x b r0 p1 s63) rfl rfl (Nat.le_of_ble_eq_true rfl) ⟨(Nat.le_of_ble_eq_true rfl), (Nat.le_of_ble_eq_true rfl)⟩ ⟨rfl, rfl, (Nat.le_of_ble_eq_true rfl), (Nat.le_of_ble_eq_true rfl)⟩ dX11_transpose_74 (fun _ => ?_)
              refine dn_iinc (pc := 77) (s63 + 1) 4 dX11_transpose_77 rfl rfl (Nat.le_of_ble_eq_true rfl) (dnKp_nb 3 rfl rfl rfl (dnKp_of (lv2 := [(0, dnV b r0), (1, .int p1), (2, .int p2)]) [0, 1, 2] rfl rfl)) ?_
              refine dn_goto (pc := 80) 63 dX11_transpose_80 rfl ?_
              refine dn_leaf ?_
              exact dn_lv [2, 3, 4, 1, 0] rfl (hK63 (s63 + 1))
          · refine dn_aload_n (pc := 83) r0 0 dX11_transpose_83 rfl ?_
            refine dn_getR (pc := 84) r0 lRX11_9 dX11_transpose_84 (fun v10 => ?_)
            refine dn_iload_n (pc := 87) 1 dX11_transpose_87 rfl ?_
            refine dn_callV0I (pc := 88) [.int p2] v10 kRX11_82 (mX9_finishGrid w x b v10 p2) rfl rfl (Nat.le_of_ble_eq_true rfl) ⟨(Nat.le_of_ble_eq_true rfl), (Nat.le_of_ble_eq_true rfl)⟩ ⟨rfl, rfl, (Nat.le_of_ble_eq_true rfl), (Nat.le_of_ble_eq_true rfl)⟩ dX11_transpose_88 (fun v11 => ?_)
            exact dn_ret (Nat.le_of_ble_eq_true rfl) (Nat.le_of_ble_eq_true rfl) rfl dX11_transpose_91
        · refine dn_bipush (pc := 48) (v := -10) dX11_transpose_48 rfl ?_
          exact dn_ret (Nat.le_of_ble_eq_true rfl) (Nat.le_of_ble_eq_true rfl) rfl dX11_transpose_50
      · refine dn_iload_n (pc := 29) 0 dX11_transpose_29 rfl ?_
        exact dn_ret (Nat.le_of_ble_eq_true rfl) (Nat.le_of_ble_eq_true rfl) rfl dX11_transpose_30
    · refine dn_iconst (pc := 14) (v := -1) dX11_transpose_14 rfl ?_
      exact dn_ret (Nat.le_of_ble_eq_true rfl) (Nat.le_of_ble_eq_true rfl) rfl dX11_transpose_15
  · refine dn_iconst (pc := 14) (v := -1) dX11_transpose_14 rfl ?_
    exact dn_ret (Nat.le_of_ble_eq_true rfl) (Nat.le_of_ble_eq_true rfl) rfl dX11_transpose_15
abbrev rmX12_tally : Room := { frames := 0, cells := 0, slots := 0, locals := 0 }
def fX12_tally (r0 : Option Nat) (p1 : Int32) : dnM Int32 :=
  if p1 < (-10) then
  (dnP p1)
  else
  (if (-1) < p1 then
  (dnP p1)
  else
  (if p1 = (-9) then
  (dnP p1)
  else
  (dnB (dnGR r0 10 11) fun v1 =>
  dnB (dnAI v1 100 (-p1)) fun v2 =>
  dnB (dnTI v1 100 (-p1) (v2 + 1)) fun _ =>
  dnP p1)))
abbrev jX12_tally (w : dnWd) (x : dnX) (b : Nat) := dnD w x b (fun _ => True) cX12_tally RX12 2 rmX12_tally "tally" eI
set_option maxHeartbeats 4000000 in
set_option maxRecDepth 100000 in
theorem mX12_tally (w : dnWd) (x : dnX) (b : Nat) (r0 : Option Nat) (p1 : Int32) : dnMt w x b yX12_tally cX12_tally 2 (some .int) rmX12_tally eI [dnV b r0, .int p1] (fX12_tally r0 p1) := by
  have hlv : lv_args 0 [dnV b r0, .int p1] = [(0, dnV b r0), (1, .int p1)] := by cases r0 <;> rfl
  refine dn_mt (by decide +kernel) roI (by cases r0 <;> exact (Nat.le_of_ble_eq_true rfl)) ?_
  rw [hlv]
  refine dn_top ?_
  show jX12_tally w x b 0 0 0 _ [] (dnB _ dnP)
  unfold fX12_tally
  refine dn_iload_n (pc := 0) 1 dX12_tally_0 rfl ?_
  refine dn_bipush (pc := 1) (v := -10) dX12_tally_1 rfl ?_
  refine dn_icmp_lt (pc := 3) 28 dX12_tally_3 rfl (fun _ => ?_) (fun _ => ?_)
  · refine dn_iload_n (pc := 28) 1 dX12_tally_28 rfl ?_
    exact dn_ret (Nat.le_of_ble_eq_true rfl) (Nat.le_of_ble_eq_true rfl) rfl dX12_tally_29
  · refine dn_iload_n (pc := 6) 1 dX12_tally_6 rfl ?_
    refine dn_iconst (pc := 7) (v := -1) dX12_tally_7 rfl ?_
    refine dn_icmp_gt (pc := 8) 28 dX12_tally_8 rfl (fun _ => ?_) (fun _ => ?_)
    · refine dn_iload_n (pc := 28) 1 dX12_tally_28 rfl ?_
      exact dn_ret (Nat.le_of_ble_eq_true rfl) (Nat.le_of_ble_eq_true rfl) rfl dX12_tally_29
    · refine dn_iload_n (pc := 11) 1 dX12_tally_11 rfl ?_
      refine dn_bipush (pc := 12) (v := -9) dX12_tally_12 rfl ?_
      refine dn_icmp_eq (pc := 14) 28 dX12_tally_14 rfl (fun _ => ?_) (fun _ => ?_)
      · refine dn_iload_n (pc := 28) 1 dX12_tally_28 rfl ?_
        exact dn_ret (Nat.le_of_ble_eq_true rfl) (Nat.le_of_ble_eq_true rfl) rfl dX12_tally_29
      · refine dn_aload_n (pc := 17) r0 0 dX12_tally_17 rfl ?_
        refine dn_getR (pc := 18) r0 lRX12_83 dX12_tally_18 (fun v1 => ?_)
        refine dn_iload_n (pc := 21) 1 dX12_tally_21 rfl ?_
        refine dn_ineg (pc := 22) dX12_tally_22 ?_
        refine dn_dup2_11 (pc := 23) dX12_tally_23 rfl (dn_cat b _) ?_
        refine dn_iald (pc := 24) v1 dX12_tally_24 (fun v2 => ?_)
        refine dn_iconst (pc := 25) (v := 1) dX12_tally_25 rfl ?_
        refine dn_iadd (pc := 26) dX12_tally_26 ?_
        refine dn_iast (pc := 27) v1 dX12_tally_27 ?_
        refine dn_iload_n (pc := 28) 1 dX12_tally_28 rfl ?_
        exact dn_ret (Nat.le_of_ble_eq_true rfl) (Nat.le_of_ble_eq_true rfl) rfl dX12_tally_29
abbrev rmX5_become : Room := { frames := 2, cells := 0, slots := 0, locals := 46 }
def fX5_become (r0 : Option Nat) (p1 : Int32) (p2 : Int64) : dnM Unit :=
  dnB (dnCv r0 4 (fX5_begin r0 8 1)) fun _ =>
  dnB (dnGR r0 4 3) fun v2 =>
  dnB (dnTI v2 100 0 p1) fun _ =>
  if 5 < p1 then
  (if ¬ p1 = 6 then
  (if ¬ p1 = 7 then
  (if 11 ≤ p1 then
  (dnP ())
  else
  (dnB (dnGR r0 4 4) fun v3 =>
  dnB (dnTL v3 102 0 (p2 &&& 3)) fun _ =>
  dnP ()))
  else
  (dnB (dnGR r0 4 5) fun v4 =>
  dnB (dnN64 (FP.ddiv (FP.l2d p2) 4620693217682128896)) fun v5 =>
  dnB (dnTD v4 103 0 v5) fun _ =>
  dnP ()))
  else
  (dnB (dnGR r0 4 5) fun v6 =>
  dnB (dnN32 (FP.fdiv (FP.l2f p2) 1090519040)) fun v7 =>
  dnB (dnN64 (FP.f2d v7)) fun v8 =>
  dnB (dnTD v6 103 0 v8) fun _ =>
  dnP ()))
  else
  (dnB (dnGR r0 4 4) fun v9 =>
  dnB (fX12_narrowed p1 p2) fun v10 =>
  dnB (dnTL v9 102 0 v10) fun _ =>
  dnP ())
abbrev jX5_become (w : dnWd) (x : dnX) (b : Nat) := dnD w x b (fun _ => True) cX5_become RX5 4 rmX5_become "become" eU
set_option maxHeartbeats 4000000 in
set_option maxRecDepth 100000 in
theorem mX5_become (w : dnWd) (x : dnX) (b : Nat) (r0 : Option Nat) (p1 : Int32) (p2 : Int64) : dnMt w x b yX5_become cX5_become 4 none rmX5_become eU [dnV b r0, .int p1, .long p2] (fX5_become r0 p1 p2) := by
  have hlv : lv_args 0 [dnV b r0, .int p1, .long p2] = [(0, dnV b r0), (1, .int p1), (2, .long p2)] := by cases r0 <;> rfl
  refine dn_mt (by decide +kernel) roU (by cases r0 <;> exact (Nat.le_of_ble_eq_true rfl)) ?_
  rw [hlv]
  refine dn_top ?_
  show jX5_become w x b 0 0 0 _ [] (dnB _ dnP)
  unfold fX5_become
  refine dn_aload_n (pc := 0) r0 0 dX5_become_0 rfl ?_
  refine dn_bipush (pc := 1) (v := 8) dX5_become_1 rfl ?_
  refine dn_iconst (pc := 3) (v := 1) dX5_become_3 rfl ?_
  refine dn_callV0U (pc := 4) [.int 8, .int 1] r0 kRX5_51 (mX5_begin w x b r0 8 1) rfl rfl (Nat.le_of_ble_eq_true rfl) ⟨(Nat.le_of_ble_eq_true rfl), (Nat.le_of_ble_eq_true rfl)⟩ ⟨rfl, rfl, (Nat.le_of_ble_eq_true rfl), (Nat.le_of_ble_eq_true rfl)⟩ dX5_become_4 (fun _ => ?_)
  refine dn_aload_n (pc := 7) r0 0 dX5_become_7 rfl ?_
  refine dn_getR (pc := 8) r0 lRX5_18 dX5_become_8 (fun v2 => ?_)
  refine dn_iconst (pc := 11) (v := 0) dX5_become_11 rfl ?_
  refine dn_iload_n (pc := 12) 1 dX5_become_12 rfl ?_
  refine dn_iast (pc := 13) v2 dX5_become_13 ?_
  refine dn_iload_n (pc := 14) 1 dX5_become_14 rfl ?_
  refine dn_iconst (pc := 15) (v := 5) dX5_become_15 rfl ?_
  refine dn_icmp_gt (pc := 16) 33 dX5_become_16 rfl (fun _ => ?_) (fun _ => ?_)
  · refine dn_iload_n (pc := 33) 1 dX5_become_33 rfl ?_
    refine dn_bipush (pc := 34) (v := 6) dX5_become_34 rfl ?_
    refine dn_icmp_ne (pc := 36) 54 dX5_become_36 rfl (fun _ => ?_) (fun _ => ?_)
    · refine dn_iload_n (pc := 54) 1 dX5_become_54 rfl ?_
      refine dn_bipush (pc := 55) (v := 7) dX5_become_55 rfl ?_
      refine dn_icmp_ne (pc := 57) 75 dX5_become_57 rfl (fun _ => ?_) (fun _ => ?_)
      · refine dn_iload_n (pc := 75) 1 dX5_become_75 rfl ?_
        refine dn_bipush (pc := 76) (v := 11) dX5_become_76 rfl ?_
        refine dn_icmp_ge (pc := 78) 92 dX5_become_78 rfl (fun _ => ?_) (fun _ => ?_)
        · exact dn_ret (Nat.le_of_ble_eq_true rfl) (Nat.le_of_ble_eq_true rfl) rfl dX5_become_92
        · refine dn_aload_n (pc := 81) r0 0 dX5_become_81 rfl ?_
          refine dn_getR (pc := 82) r0 lRX5_22 dX5_become_82 (fun v3 => ?_)
          refine dn_iconst (pc := 85) (v := 0) dX5_become_85 rfl ?_
          refine dn_lload_n (pc := 86) 2 dX5_become_86 rfl ?_
          refine dn_ldc2 (pc := 87) kRX5_62 dX5_become_87 ?_
          refine dn_land (pc := 90) dX5_become_90 ?_
          refine dn_last (pc := 91) v3 dX5_become_91 ?_
          exact dn_ret (Nat.le_of_ble_eq_true rfl) (Nat.le_of_ble_eq_true rfl) rfl dX5_become_92
      · refine dn_aload_n (pc := 60) r0 0 dX5_become_60 rfl ?_
        refine dn_getR (pc := 61) r0 lRX5_26 dX5_become_61 (fun v4 => ?_)
        refine dn_iconst (pc := 64) (v := 0) dX5_become_64 rfl ?_
        refine dn_lload_n (pc := 65) 2 dX5_become_65 rfl ?_
        refine dn_l2d (pc := 66) dX5_become_66 ?_
        refine dn_ldc2d (pc := 67) kRX5_60 dX5_become_67 ?_
        refine dn_ddiv (pc := 70) dX5_become_70 (fun v5 => ?_)
        refine dn_dast (pc := 71) v4 dX5_become_71 ?_
        refine dn_goto (pc := 72) 92 dX5_become_72 rfl ?_
        exact dn_ret (Nat.le_of_ble_eq_true rfl) (Nat.le_of_ble_eq_true rfl) rfl dX5_become_92
    · refine dn_aload_n (pc := 39) r0 0 dX5_become_39 rfl ?_
      refine dn_getR (pc := 40) r0 lRX5_26 dX5_become_40 (fun v6 => ?_)
      refine dn_iconst (pc := 43) (v := 0) dX5_become_43 rfl ?_
      refine dn_lload_n (pc := 44) 2 dX5_become_44 rfl ?_
      refine dn_l2f (pc := 45) dX5_become_45 ?_
      refine dn_ldcf (pc := 46) kRX5_59 dX5_become_46 ?_
      refine dn_fdiv (pc := 48) dX5_become_48 (fun v7 => ?_)
      refine dn_f2d (pc := 49) dX5_become_49 (fun v8 => ?_)
      refine dn_dast (pc := 50) v6 dX5_become_50 ?_
      refine dn_goto (pc := 51) 92 dX5_become_51 rfl ?_
      exact dn_ret (Nat.le_of_ble_eq_true rfl) (Nat.le_of_ble_eq_true rfl) rfl dX5_become_92
  · refine dn_aload_n (pc := 19) r0 0 dX5_become_19 rfl ?_
    refine dn_getR (pc := 20) r0 lRX5_22 dX5_become_20 (fun v9 => ?_)
    refine dn_iconst (pc := 23) (v := 0) dX5_become_23 rfl ?_
    refine dn_iload_n (pc := 24) 1 dX5_become_24 rfl ?_
    refine dn_lload_n (pc := 25) 2 dX5_become_25 rfl ?_
    refine dn_callSN0L (pc := 26) [.int p1, .long p2]  kRX5_55 (mX12_narrowed w x b p1 p2) rfl rfl (Nat.le_of_ble_eq_true rfl) ⟨(Nat.le_of_ble_eq_true rfl), (Nat.le_of_ble_eq_true rfl)⟩ ⟨rfl, rfl, (Nat.le_of_ble_eq_true rfl), (Nat.le_of_ble_eq_true rfl)⟩ dX5_become_26 (fun v10 => ?_)
    refine dn_last (pc := 29) v9 dX5_become_29 ?_
    refine dn_goto (pc := 30) 92 dX5_become_30 rfl ?_
    exact dn_ret (Nat.le_of_ble_eq_true rfl) (Nat.le_of_ble_eq_true rfl) rfl dX5_become_92
abbrev rmX5_exceeds : Room := { frames := 1, cells := 0, slots := 0, locals := 20 }
def fX5_exceeds (r0 : Option Nat) (p1 : Int32) (r2 : Option Nat) (p3 : Int32) : dnM Bool :=
  dnB (dnGR r0 4 3) fun v1 =>
  dnB (dnAI v1 100 p1) fun v2 =>
  dnB (fX12_isReal v2) fun v3 =>
  if v3 = true then
  (dnB (dnGR r0 4 5) fun v8 =>
  dnB (dnAD v8 103 p1) fun v9 =>
  dnB (dnGR r2 4 5) fun v10 =>
  dnB (dnAD v10 103 p3) fun v11 =>
  if (Op.cmpValue (FP.dcmp v9 v11) .l) ≤ 0 then
  (dnP false)
  else
  (dnP true))
  else
  (dnB (dnGR r0 4 4) fun v4 =>
  dnB (dnAL v4 102 p1) fun v5 =>
  dnB (dnGR r2 4 4) fun v6 =>
  dnB (dnAL v6 102 p3) fun v7 =>
  if (lg_cmp v5 v7) ≤ 0 then
  (dnP false)
  else
  (dnP true))
abbrev jX5_exceeds (w : dnWd) (x : dnX) (b : Nat) := dnD w x b (fun _ => True) cX5_exceeds RX5 4 rmX5_exceeds "exceeds" eZ
set_option maxHeartbeats 4000000 in
set_option maxRecDepth 100000 in
theorem mX5_exceeds (w : dnWd) (x : dnX) (b : Nat) (r0 : Option Nat) (p1 : Int32) (r2 : Option Nat) (p3 : Int32) : dnMt w x b yX5_exceeds cX5_exceeds 4 (some .boolean) rmX5_exceeds eZ [dnV b r0, .int p1, dnV b r2, .int p3] (fX5_exceeds r0 p1 r2 p3) := by
  have hlv : lv_args 0 [dnV b r0, .int p1, dnV b r2, .int p3] = [(0, dnV b r0), (1, .int p1), (2, dnV b r2), (3, .int p3)] := by cases r0 <;> cases r2 <;> rfl
  refine dn_mt (by decide +kernel) roZ (by cases r0 <;> cases r2 <;> exact (Nat.le_of_ble_eq_true rfl)) ?_
  rw [hlv]
  refine dn_top ?_
  show jX5_exceeds w x b 0 0 0 _ [] (dnB _ dnP)
  unfold fX5_exceeds
  refine dn_aload_n (pc := 0) r0 0 dX5_exceeds_0 rfl ?_
  refine dn_getR (pc := 1) r0 lRX5_18 dX5_exceeds_1 (fun v1 => ?_)
  refine dn_iload_n (pc := 4) 1 dX5_exceeds_4 rfl ?_
  refine dn_iald (pc := 5) v1 dX5_exceeds_5 (fun v2 => ?_)
  refine dn_callSN0Z (pc := 6) [.int v2]  kRX5_72 (mX12_isReal w x b v2) rfl rfl (Nat.le_of_ble_eq_true rfl) ⟨(Nat.le_of_ble_eq_true rfl), (Nat.le_of_ble_eq_true rfl)⟩ ⟨rfl, rfl, (Nat.le_of_ble_eq_true rfl), (Nat.le_of_ble_eq_true rfl)⟩ dX5_exceeds_6 (fun v3 => ?_)
  refine dn_ifz_eq (pc := 9) 36 dX5_exceeds_9 rfl (fun _ => ?_) (fun _ => ?_)
  · refine dn_aload_n (pc := 12) r0 0 dX5_exceeds_12 rfl ?_
    refine dn_getR (pc := 13) r0 lRX5_26 dX5_exceeds_13 (fun v8 => ?_)
    refine dn_iload_n (pc := 16) 1 dX5_exceeds_16 rfl ?_
    refine dn_dald (pc := 17) v8 dX5_exceeds_17 (fun v9 => ?_)
    refine dn_aload_n (pc := 18) r2 2 dX5_exceeds_18 rfl ?_
    refine dn_getR (pc := 19) r2 lRX5_26 dX5_exceeds_19 (fun v10 => ?_)
    refine dn_iload_n (pc := 22) 3 dX5_exceeds_22 rfl ?_
    refine dn_dald (pc := 23) v10 dX5_exceeds_23 (fun v11 => ?_)
    refine dn_dcmp (pc := 24) dX5_exceeds_24 ?_
    refine dn_if_le (pc := 25) 32 dX5_exceeds_25 rfl (fun _ => ?_) (fun _ => ?_)
    · refine dn_iconst (pc := 32) (v := 0) dX5_exceeds_32 rfl ?_
      refine dn_goto (pc := 33) 57 dX5_exceeds_33 rfl ?_
      exact dn_ret (Nat.le_of_ble_eq_true rfl) (Nat.le_of_ble_eq_true rfl) rfl dX5_exceeds_57
    · refine dn_iconst (pc := 28) (v := 1) dX5_exceeds_28 rfl ?_
      refine dn_goto (pc := 29) 57 dX5_exceeds_29 rfl ?_
      exact dn_ret (Nat.le_of_ble_eq_true rfl) (Nat.le_of_ble_eq_true rfl) rfl dX5_exceeds_57
  · refine dn_aload_n (pc := 36) r0 0 dX5_exceeds_36 rfl ?_
    refine dn_getR (pc := 37) r0 lRX5_22 dX5_exceeds_37 (fun v4 => ?_)
    refine dn_iload_n (pc := 40) 1 dX5_exceeds_40 rfl ?_
    refine dn_lald (pc := 41) v4 dX5_exceeds_41 (fun v5 => ?_)
    refine dn_aload_n (pc := 42) r2 2 dX5_exceeds_42 rfl ?_
    refine dn_getR (pc := 43) r2 lRX5_22 dX5_exceeds_43 (fun v6 => ?_)
    refine dn_iload_n (pc := 46) 3 dX5_exceeds_46 rfl ?_
    refine dn_lald (pc := 47) v6 dX5_exceeds_47 (fun v7 => ?_)
    refine dn_lcmp (pc := 48) dX5_exceeds_48 ?_
    refine dn_if_le (pc := 49) 56 dX5_exceeds_49 rfl (fun _ => ?_) (fun _ => ?_)
    · refine dn_iconst (pc := 56) (v := 0) dX5_exceeds_56 rfl ?_
      exact dn_ret (Nat.le_of_ble_eq_true rfl) (Nat.le_of_ble_eq_true rfl) rfl dX5_exceeds_57
    · refine dn_iconst (pc := 52) (v := 1) dX5_exceeds_52 rfl ?_
      refine dn_goto (pc := 53) 57 dX5_exceeds_53 rfl ?_
      exact dn_ret (Nat.le_of_ble_eq_true rfl) (Nat.le_of_ble_eq_true rfl) rfl dX5_exceeds_57
abbrev rmX6_markGreater : Room := { frames := 4, cells := 0, slots := 0, locals := 90 }
def fX6_markGreater_j175 (l0 : Option Nat) (l1 : Int32) (l6 : Int32) (l8 : Option Nat) (l9 : Int32) (l10 : Int32) : dnM ((Int32 × Int32) ⊕ (Int32)) :=
  dnP (.inl (l9, (l10 + 1)))
def fX6_markGreater_b134 (c0 : Option Nat) (c1 : Int32) (c6 : Int32) (c8 : Option Nat) (s134 : Int32 × Int32) : dnM ((Int32 × Int32) ⊕ (Int32)) :=
  dnB (dnGR c0 5 3) fun v21 =>
  dnB (dnGI v21 4 2) fun v22 =>
  if v22 ≤ s134.2 then
  (dnP (.inr s134.1))
  else
  (dnB (dnGR c0 5 3) fun v23 =>
  dnB (dnGR c0 5 2) fun v24 =>
  dnB (dnCv v23 4 (fX5_exceeds v23 s134.2 v24 0)) fun v25 =>
  if v25 = true then
  (dnB (dnGR c8 4 4) fun v26 =>
  dnB (dnTL v26 102 s134.2 1) fun _ =>
  fX6_markGreater_j175 c0 c1 c6 c8 (s134.1 + 1) s134.2)
  else
  (fX6_markGreater_j175 c0 c1 c6 c8 s134.1 s134.2))
def fX6_markGreater (r0 : Option Nat) (p1 : Int32) (p2 : Int32) (p3 : Int32) (p4 : Int64) (p6 : Int32) : dnM Int32 :=
  dnB (fX12_isGrid p1) fun v1 =>
  if v1 = true then
  (if p3 < 4 then
  (dnP (-1))
  else
  (if p3 ≤ 7 then
  (dnB (dnGR r0 5 0) fun v2 =>
  dnB (dnCv v2 7 (fX9_rowAt v2 p1 p2)) fun v3 =>
  v3.elim
  (dnB (dnGR r0 5 0) fun v5 =>
  dnB (dnCv v5 7 (fX9_rowFault v5 p1 p2)) fun v6 =>
  dnP v6)
  (fun v4 => dnB (dnCv (some v4) 4 (fX5_cellsReadAs (some v4) p3)) fun v7 =>
  if v7 = true then
  (dnB (dnGR r0 5 0) fun v8 =>
  dnB (dnCv v8 7 (fX9_hasPlace v8 p1 p6)) fun v9 =>
  if v9 = true then
  (dnB (dnGR r0 5 3) fun v10 =>
  dnB (dnGI (some v4) 4 2) fun v11 =>
  dnB (dnCv v10 4 (fX5_begin v10 p3 v11)) fun _ =>
  dnB (dnGR r0 5 3) fun v13 =>
  dnB (dnGI (some v4) 4 2) fun v14 =>
  dnB (fX6_append v13 0 (some v4) 0 v14) fun _ =>
  dnB (dnGR r0 5 2) fun v16 =>
  dnB (dnCv v16 4 (fX5_become v16 p3 p4)) fun _ =>
  dnB (dnGR r0 5 0) fun v18 =>
  dnB (dnGI (some v4) 4 2) fun v19 =>
  dnB (dnCv v18 7 (fX9_freshRow v18 0 v19)) fun v20 =>
  dnB (dnIt 1000 (fX6_markGreater_b134 r0 p1 p6 v20) (0, 0)) fun q134 =>
  dnB (dnGR r0 5 0) fun v27 =>
  dnB (dnCv v27 7 (fX9_place v27 p1 p6 v20)) fun _ =>
  dnP q134)
  else
  (dnP (-3)))
  else
  (dnP (-7))))
  else
  (dnP (-1))))
  else
  (dnP (-1))
abbrev jX6_markGreater (w : dnWd) (x : dnX) (b : Nat) := dnD w x b (fun _ => True) cX6_markGreater RX6 11 rmX6_markGreater "markGreater" eI
set_option maxHeartbeats 4000000 in
set_option maxRecDepth 100000 in
theorem mX6_markGreater (w : dnWd) (x : dnX) (b : Nat) (r0 : Option Nat) (p1 : Int32) (p2 : Int32) (p3 : Int32) (p4 : Int64) (p6 : Int32) : dnMt w x b yX6_markGreater cX6_markGreater 11 (some .int) rmX6_markGreater eI [dnV b r0, .int p1, .int p2, .int p3, .long p4, .int p6] (fX6_markGreater r0 p1 p2 p3 p4 p6) := by
  have hlv : lv_args 0 [dnV b r0, .int p1, .int p2, .int p3, .long p4, .int p6] = [(0, dnV b r0), (1, .int p1), (2, .int p2), (3, .int p3), (4, .long p4), (6, .int p6)] := by cases r0 <;> rfl
  refine dn_mt (by decide +kernel) roI (by cases r0 <;> exact (Nat.le_of_ble_eq_true rfl)) ?_
  rw [hlv]
  refine dn_top ?_
  show jX6_markGreater w x b 0 0 0 _ [] (dnB _ dnP)
  unfold fX6_markGreater
  refine dn_iload_n (pc := 0) 1 dX6_markGreater_0 rfl ?_
  refine dn_callSN0Z (pc := 1) [.int p1]  kRX6_31 (mX12_isGrid w x b p1) rfl rfl (Nat.le_of_ble_eq_true rfl) ⟨(Nat.le_of_ble_eq_true rfl), (Nat.le_of_ble_eq_true rfl)⟩ ⟨rfl, rfl, (Nat.le_of_ble_eq_true rfl), (Nat.le_of_ble_eq_true rfl)⟩ dX6_markGreater_1 (fun v1 => ?_)
  refine dn_ifz_eq (pc := 4) 18 dX6_markGreater_4 rfl (fun _ => ?_) (fun _ => ?_)
  · refine dn_iload_n (pc := 7) 3 dX6_markGreater_7 rfl ?_
    refine dn_iconst (pc := 8) (v := 4) dX6_markGreater_8 rfl ?_
    refine dn_icmp_lt (pc := 9) 18 dX6_markGreater_9 rfl (fun _ => ?_) (fun _ => ?_)
    · refine dn_iconst (pc := 18) (v := -1) dX6_markGreater_18 rfl ?_
      exact dn_ret (Nat.le_of_ble_eq_true rfl) (Nat.le_of_ble_eq_true rfl) rfl dX6_markGreater_19
    · refine dn_iload_n (pc := 12) 3 dX6_markGreater_12 rfl ?_
      refine dn_bipush (pc := 13) (v := 7) dX6_markGreater_13 rfl ?_
      refine dn_icmp_le (pc := 15) 20 dX6_markGreater_15 rfl (fun _ => ?_) (fun _ => ?_)
      · refine dn_aload_n (pc := 20) r0 0 dX6_markGreater_20 rfl ?_
        refine dn_getR (pc := 21) r0 lRX6_23 dX6_markGreater_21 (fun v2 => ?_)
        refine dn_iload_n (pc := 24) 1 dX6_markGreater_24 rfl ?_
        refine dn_iload_n (pc := 25) 2 dX6_markGreater_25 rfl ?_
        refine dn_callV0R (pc := 26) [.int p1, .int p2] v2 kRX6_35 (mX9_rowAt w x b v2 p1 p2) rfl rfl (Nat.le_of_ble_eq_true rfl) ⟨(Nat.le_of_ble_eq_true rfl), (Nat.le_of_ble_eq_true rfl)⟩ ⟨rfl, rfl, (Nat.le_of_ble_eq_true rfl), (Nat.le_of_ble_eq_true rfl)⟩ dX6_markGreater_26 (fun v3 => ?_)
        refine dn_astore (pc := 29) v3 dX6_markGreater_29 (Nat.le_of_ble_eq_true rfl) (dnKp_nb 5 rfl rfl rfl (dnKp_of (lv2 := [(0, dnV b r0), (1, .int p1), (2, .int p2), (3, .int p3), (4, .long p4)]) [0, 1, 2, 3, 4] rfl rfl)) ?_
        refine dn_aload (pc := 31) v3 0 dX6_markGreater_31 rfl ?_
        refine dn_ifnonnull (pc := 33) v3 46 dX6_markGreater_33 rfl (fun e_ => ?_) (fun v4 e_ => ?_)
        · subst e_
          refine dn_aload_n (pc := 36) r0 2 dX6_markGreater_36 rfl ?_
          refine dn_getR (pc := 37) r0 lRX6_23 dX6_markGreater_37 (fun v5 => ?_)
          refine dn_iload_n (pc := 40) 3 dX6_markGreater_40 rfl ?_
          refine dn_iload_n (pc := 41) 4 dX6_markGreater_41 rfl ?_
          refine dn_callV0I (pc := 42) [.int p1, .int p2] v5 kRX6_41 (mX9_rowFault w x b v5 p1 p2) rfl rfl (Nat.le_of_ble_eq_true rfl) ⟨(Nat.le_of_ble_eq_true rfl), (Nat.le_of_ble_eq_true rfl)⟩ ⟨rfl, rfl, (Nat.le_of_ble_eq_true rfl), (Nat.le_of_ble_eq_true rfl)⟩ dX6_markGreater_42 (fun v6 => ?_)
          exact dn_ret (Nat.le_of_ble_eq_true rfl) (Nat.le_of_ble_eq_true rfl) rfl dX6_markGreater_45
        · subst e_
          refine dn_aload (pc := 46) (some v4) 0 dX6_markGreater_46 rfl ?_
          refine dn_iload_n (pc := 48) 5 dX6_markGreater_48 rfl ?_
          refine dn_callV0Z (pc := 49) [.int p3] (some v4) kRX6_154 (mX5_cellsReadAs w x b (some v4) p3) rfl rfl (Nat.le_of_ble_eq_true rfl) ⟨(Nat.le_of_ble_eq_true rfl), (Nat.le_of_ble_eq_true rfl)⟩ ⟨rfl, rfl, (Nat.le_of_ble_eq_true rfl), (Nat.le_of_ble_eq_true rfl)⟩ dX6_markGreater_49 (fun v7 => ?_)
          refine dn_ifz_ne (pc := 52) 58 dX6_markGreater_52 rfl (fun _ => ?_) (fun _ => ?_)
          · refine dn_aload_n (pc := 58) r0 2 dX6_markGreater_58 rfl ?_
            refine dn_getR (pc := 59) r0 lRX6_23 dX6_markGreater_59 (fun v8 => ?_)
            refine dn_iload_n (pc := 62) 3 dX6_markGreater_62 rfl ?_
            refine dn_iload (pc := 63) 1 dX6_markGreater_63 rfl ?_
            refine dn_callV0Z (pc := 65) [.int p1, .int p6] v8 kRX6_98 (mX9_hasPlace w x b v8 p1 p6) rfl rfl (Nat.le_of_ble_eq_true rfl) ⟨(Nat.le_of_ble_eq_true rfl), (Nat.le_of_ble_eq_true rfl)⟩ ⟨rfl, rfl, (Nat.le_of_ble_eq_true rfl), (Nat.le_of_ble_eq_true rfl)⟩ dX6_markGreater_65 (fun v9 => ?_)
            refine dn_ifz_ne (pc := 68) 74 dX6_markGreater_68 rfl (fun _ => ?_) (fun _ => ?_)
            · refine dn_aload_n (pc := 74) r0 2 dX6_markGreater_74 rfl ?_
              refine dn_getR (pc := 75) r0 lRX6_20 dX6_markGreater_75 (fun v10 => ?_)
              refine dn_iload_n (pc := 78) 5 dX6_markGreater_78 rfl ?_
              refine dn_aload (pc := 79) (some v4) 0 dX6_markGreater_79 rfl ?_
              refine dn_getI (pc := 81) (some v4) lRX6_92 dX6_markGreater_81 (fun v11 => ?_)
              refine dn_callV0U (pc := 84) [.int p3, .int v11] v10 kRX6_56 (mX5_begin w x b v10 p3 v11) rfl rfl (Nat.le_of_ble_eq_true rfl) ⟨(Nat.le_of_ble_eq_true rfl), (Nat.le_of_ble_eq_true rfl)⟩ ⟨rfl, rfl, (Nat.le_of_ble_eq_true rfl), (Nat.le_of_ble_eq_true rfl)⟩ dX6_markGreater_84 (fun _ => ?_)
              refine dn_aload_n (pc := 87) r0 2 dX6_markGreater_87 rfl ?_
              refine dn_getR (pc := 88) r0 lRX6_20 dX6_markGreater_88 (fun v13 => ?_)
              refine dn_iconst (pc := 91) (v := 0) dX6_markGreater_91 rfl ?_
              refine dn_aload (pc := 92) (some v4) 0 dX6_markGreater_92 rfl ?_
              refine dn_iconst (pc := 94) (v := 0) dX6_markGreater_94 rfl ?_
              refine dn_aload (pc := 95) (some v4) 0 dX6_markGreater_95 rfl ?_
              refine dn_getI (pc := 97) (some v4) lRX6_92 dX6_markGreater_97 (fun v14 => ?_)
              refine dn_callS0U (pc := 100) [dnV b v13, .int 0, dnV b (some v4), .int 0, .int v14]  kRX6_104 (mX6_append w x b v13 0 (some v4) 0 v14) rfl rfl (Nat.le_of_ble_eq_true rfl) ⟨(Nat.le_of_ble_eq_true rfl), (Nat.le_of_ble_eq_true rfl)⟩ ⟨rfl, rfl, (Nat.le_of_ble_eq_true rfl), (Nat.le_of_ble_eq_true rfl)⟩ dX6_markGreater_100 (fun _ => ?_)
              refine dn_aload_n (pc := 103) r0 2 dX6_markGreater_103 rfl ?_
              refine dn_getR (pc := 104) r0 lRX6_14 dX6_markGreater_104 (fun v16 => ?_)
              refine dn_iload_n (pc := 107) 5 dX6_markGreater_107 rfl ?_
              refine dn_lload (pc := 108) 6 dX6_markGreater_108 rfl ?_
              refine dn_callV0U (pc := 110) [.int p3, .long p4] v16 kRX6_88 (mX5_become w x b v16 p3 p4) rfl rfl (Nat.le_of_ble_eq_true rfl) ⟨(Nat.le_of_ble_eq_true rfl), (Nat.le_of_ble_eq_true rfl)⟩ ⟨rfl, rfl, (Nat.le_of_ble_eq_true rfl), (Nat.le_of_ble_eq_true rfl)⟩ dX6_markGreater_110 (fun _ => ?_)
              refine dn_aload_n (pc := 113) r0 2 dX6_markGreater_113 rfl ?_
              refine dn_getR (pc := 114) r0 lRX6_23 dX6_markGreater_114 (fun v18 => ?_)
              refine dn_iconst (pc := 117) (v := 0) dX6_markGreater_117 rfl ?_
              refine dn_aload (pc := 118) (some v4) 0 dX6_markGreater_118 rfl ?_
              refine dn_getI (pc := 120) (some v4) lRX6_92 dX6_markGreater_120 (fun v19 => ?_)
              refine dn_callV0R (pc := 123) [.int 0, .int v19] v18 kRX6_101 (mX9_freshRow w x b v18 0 v19) rfl rfl (Nat.le_of_ble_eq_true rfl) ⟨(Nat.le_of_ble_eq_true rfl), (Nat.le_of_ble_eq_true rfl)⟩ ⟨rfl, rfl, (Nat.le_of_ble_eq_true rfl), (Nat.le_of_ble_eq_true rfl)⟩ dX6_markGreater_123 (fun v20 => ?_)
              refine dn_astore (pc := 126) v20 dX6_markGreater_126 (Nat.le_of_ble_eq_true rfl) (dnKp_of (lv2 := [(6, .int p6), (0, dnV b r0), (1, .int p1)]) [1, 2, 3] rfl rfl) ?_
              refine dn_iconst (pc := 128) (v := 0) dX6_markGreater_128 rfl ?_
              refine dn_istore (pc := 129) dX6_markGreater_129 (Nat.le_of_ble_eq_true rfl) (dnKp_nb 0 rfl (dn_cat b _) rfl (dnKp_of (lv2 := [(6, .int p6), (0, dnV b r0), (1, .int p1)]) [1, 2, 3] rfl rfl)) ?_
              refine dn_iconst (pc := 131) (v := 0) dX6_markGreater_131 rfl ?_
              refine dn_istore (pc := 132) dX6_markGreater_132 (Nat.le_of_ble_eq_true rfl) (dnKp_nb 0 rfl rfl rfl (dnKp_of (lv2 := [(8, dnV b v20), (6, .int p6), (0, dnV b r0), (1, .int p1)]) [1, 2, 3, 4] rfl rfl)) ?_
              refine dn_assoc ?_
              refine dn_lv [4, 5, 3, 2, 1, 0] (lv2 := (fun s => [(0, dnV b r0), (1, .int p1), (6, .int p6), (8, dnV b v20), (9, .int s.1), (10, .int s.2)]) (0, 0)) rfl ?_
              refine dn_loopE (pc := 134) (body := fX6_markGreater_b134 r0 p1 p6 v20) 181 (fun s => [(0, dnV b r0), (1, .int p1), (6, .int p6), (8, dnV b v20), (9, .int s.1), (10, .int s.2)]) (fun q => [(0, dnV b r0), (1, .int p1), (6, .int p6), (8, dnV b v20), (9, .int q)]) (fun s134 K134 E134 hK134 hE134 => ?_) (fun q134 => ?_) 1000 (0, 0)
              · unfold fX6_markGreater_b134
                have hj175 : ∀ (l9 : Int32) (l10 : Int32), jX6_markGreater w x b 175 0 0 [(0, dnV b r0), (1, .int p1), (6, .int p6), (8, dnV b v20), (9, .int l9), (10, .int l10)] [] (dnB (fX6_markGreater_j175 r0 p1 p6 v20 l9 l10) (dnKo K134 E134)) := by
                  intro l9 l10
                  unfold fX6_markGreater_j175
                  refine dn_iinc (pc := 175) (l10 + 1) 5 dX6_markGreater_175 rfl rfl (Nat.le_of_ble_eq_true rfl) (dnKp_nb 4 rfl rfl rfl (dnKp_of (lv2 := [(0, dnV b r0), (1, .int p1), (6, .int p6), (8, dnV b v20)]) [0, 1, 2, 3] rfl rfl)) ?_
                  refine dn_goto (pc := 178) 134 dX6_markGreater_178 rfl ?_
                  refine dn_leaf ?_
                  exact dn_lv [2, 3, 4, 5, 1, 0] rfl (hK134 (l9, (l10 + 1)))
                refine dn_iload (pc := 134) 5 dX6_markGreater_134 rfl ?_
                refine dn_aload_n (pc := 136) r0 0 dX6_markGreater_136 rfl ?_
                refine dn_getR (pc := 137) r0 lRX6_20 dX6_markGreater_137 (fun v21 => ?_)
                refine dn_getI (pc := 140) v21 lRX6_92 dX6_markGreater_140 (fun v22 => ?_)
                refine dn_icmp_ge (pc := 143) 181 dX6_markGreater_143 rfl (fun _ => ?_) (fun _ => ?_)
                · refine dn_leaf ?_
                  exact dn_lv [0, 1, 2, 3, 4] rfl (hE134 s134.1)
                · refine dn_aload_n (pc := 146) r0 0 dX6_markGreater_146 rfl ?_
                  refine dn_getR (pc := 147) r0 lRX6_20 dX6_markGreater_147 (fun v23 => ?_)
                  refine dn_iload (pc := 150) 5 dX6_markGreater_150 rfl ?_
                  refine dn_aload_n (pc := 152) r0 0 dX6_markGreater_152 rfl ?_
                  refine dn_getR (pc := 153) r0 lRX6_14 dX6_markGreater_153 (fun v24 => ?_)
                  refine dn_iconst (pc := 156) (v := 0) dX6_markGreater_156 rfl ?_
                  refine dn_callV0Z (pc := 157) [.int s134.2, dnV b v24, .int 0] v23 kRX6_135 (mX5_exceeds w x b v23 s134.2 v24 0) rfl rfl (Nat.le_of_ble_eq_true rfl) ⟨(Nat.le_of_ble_eq_true rfl), (Nat.le_of_ble_eq_true rfl)⟩ ⟨rfl, rfl, (Nat.le_of_ble_eq_true rfl), (Nat.le_of_ble_eq_true rfl)⟩ dX6_markGreater_157 (fun v25 => ?_)
                  refine dn_ifz_eq (pc := 160) 175 dX6_markGreater_160 rfl (fun _ => ?_) (fun _ => ?_)
                  · refine dn_aload (pc := 163) v20 3 dX6_markGreater_163 rfl ?_
                    refine dn_getR (pc := 165) v20 lRX6_146 dX6_markGreater_165 (fun v26 => ?_)
                    refine dn_iload (pc := 168) 5 dX6_markGreater_168 rfl ?_
                    refine dn_lconst (pc := 170) (v := 1) dX6_markGreater_170 rfl ?_
                    refine dn_last (pc := 171) v26 dX6_markGreater_171 ?_
                    refine dn_iinc (pc := 172) (s134.1 + 1) 4 dX6_markGreater_172 rfl rfl (Nat.le_of_ble_eq_true rfl) (dnKp_nb 3 rfl (dn_cat b _) rfl (dnKp_of (lv2 := [(0, dnV b r0), (1, .int p1), (6, .int p6), (10, .int s134.2)]) [0, 1, 2, 5] rfl rfl)) ?_
                    exact dn_lv [2, 3, 4, 1, 0, 5] rfl (hj175 (s134.1 + 1) s134.2)
                  · exact dn_lv [0, 1, 2, 3, 4, 5] rfl (hj175 s134.1 s134.2)
              · refine dn_aload_n (pc := 181) r0 0 dX6_markGreater_181 rfl ?_
                refine dn_getR (pc := 182) r0 lRX6_23 dX6_markGreater_182 (fun v27 => ?_)
                refine dn_iload_n (pc := 185) 1 dX6_markGreater_185 rfl ?_
                refine dn_iload (pc := 186) 2 dX6_markGreater_186 rfl ?_
                refine dn_aload (pc := 188) v20 3 dX6_markGreater_188 rfl ?_
                refine dn_callV0U (pc := 190) [.int p1, .int p6, dnV b v20] v27 kRX6_108 (mX9_place w x b v27 p1 p6 v20) rfl rfl (Nat.le_of_ble_eq_true rfl) ⟨(Nat.le_of_ble_eq_true rfl), (Nat.le_of_ble_eq_true rfl)⟩ ⟨rfl, rfl, (Nat.le_of_ble_eq_true rfl), (Nat.le_of_ble_eq_true rfl)⟩ dX6_markGreater_190 (fun _ => ?_)
                refine dn_iload (pc := 193) 4 dX6_markGreater_193 rfl ?_
                exact dn_ret (Nat.le_of_ble_eq_true rfl) (Nat.le_of_ble_eq_true rfl) rfl dX6_markGreater_195
            · refine dn_bipush (pc := 71) (v := -3) dX6_markGreater_71 rfl ?_
              exact dn_ret (Nat.le_of_ble_eq_true rfl) (Nat.le_of_ble_eq_true rfl) rfl dX6_markGreater_73
          · refine dn_bipush (pc := 55) (v := -7) dX6_markGreater_55 rfl ?_
            exact dn_ret (Nat.le_of_ble_eq_true rfl) (Nat.le_of_ble_eq_true rfl) rfl dX6_markGreater_57
      · refine dn_iconst (pc := 18) (v := -1) dX6_markGreater_18 rfl ?_
        exact dn_ret (Nat.le_of_ble_eq_true rfl) (Nat.le_of_ble_eq_true rfl) rfl dX6_markGreater_19
  · refine dn_iconst (pc := 18) (v := -1) dX6_markGreater_18 rfl ?_
    exact dn_ret (Nat.le_of_ble_eq_true rfl) (Nat.le_of_ble_eq_true rfl) rfl dX6_markGreater_19
abbrev rmX12_above : Room := { frames := 5, cells := 0, slots := 0, locals := 120 }
def fX12_above (r0 : Option Nat) (p1 : Int32) (p2 : Int32) (p3 : Int32) (p4 : Int64) (p6 : Int32) : dnM Int32 :=
  dnB (dnGR r0 10 4) fun v1 =>
  dnB (dnCv v1 5 (fX6_markGreater v1 p1 p2 p3 p4 p6)) fun v2 =>
  dnB (dnCv r0 10 (fX12_tally r0 v2)) fun v3 =>
  dnP v3
abbrev jX12_above (w : dnWd) (x : dnX) (b : Nat) := dnD w x b (fun _ => True) cX12_above RX12 7 rmX12_above "above" eI
set_option maxHeartbeats 4000000 in
set_option maxRecDepth 100000 in
theorem mX12_above (w : dnWd) (x : dnX) (b : Nat) (r0 : Option Nat) (p1 : Int32) (p2 : Int32) (p3 : Int32) (p4 : Int64) (p6 : Int32) : dnMt w x b yX12_above cX12_above 7 (some .int) rmX12_above eI [dnV b r0, .int p1, .int p2, .int p3, .long p4, .int p6] (fX12_above r0 p1 p2 p3 p4 p6) := by
  have hlv : lv_args 0 [dnV b r0, .int p1, .int p2, .int p3, .long p4, .int p6] = [(0, dnV b r0), (1, .int p1), (2, .int p2), (3, .int p3), (4, .long p4), (6, .int p6)] := by cases r0 <;> rfl
  refine dn_mt (by decide +kernel) roI (by cases r0 <;> exact (Nat.le_of_ble_eq_true rfl)) ?_
  rw [hlv]
  refine dn_top ?_
  show jX12_above w x b 0 0 0 _ [] (dnB _ dnP)
  unfold fX12_above
  refine dn_aload_n (pc := 0) r0 0 dX12_above_0 rfl ?_
  refine dn_aload_n (pc := 1) r0 0 dX12_above_1 rfl ?_
  refine dn_getR (pc := 2) r0 lRX12_35 dX12_above_2 (fun v1 => ?_)
  refine dn_iload_n (pc := 5) 1 dX12_above_5 rfl ?_
  refine dn_iload_n (pc := 6) 2 dX12_above_6 rfl ?_
  refine dn_iload_n (pc := 7) 3 dX12_above_7 rfl ?_
  refine dn_lload (pc := 8) 4 dX12_above_8 rfl ?_
  refine dn_iload (pc := 10) 5 dX12_above_10 rfl ?_
  refine dn_callV0I (pc := 12) [.int p1, .int p2, .int p3, .long p4, .int p6] v1 kRX12_163 (mX6_markGreater w x b v1 p1 p2 p3 p4 p6) rfl rfl (Nat.le_of_ble_eq_true rfl) ⟨(Nat.le_of_ble_eq_true rfl), (Nat.le_of_ble_eq_true rfl)⟩ ⟨rfl, rfl, (Nat.le_of_ble_eq_true rfl), (Nat.le_of_ble_eq_true rfl)⟩ dX12_above_12 (fun v2 => ?_)
  refine dn_callV0I (pc := 15) [.int v2] r0 kRX12_91 (mX12_tally w x b r0 v2) rfl rfl (Nat.le_of_ble_eq_true rfl) ⟨(Nat.le_of_ble_eq_true rfl), (Nat.le_of_ble_eq_true rfl)⟩ ⟨rfl, rfl, (Nat.le_of_ble_eq_true rfl), (Nat.le_of_ble_eq_true rfl)⟩ dX12_above_15 (fun v3 => ?_)
  exact dn_ret (Nat.le_of_ble_eq_true rfl) (Nat.le_of_ble_eq_true rfl) rfl dX12_above_18
abbrev rmX6_increase : Room := { frames := 4, cells := 0, slots := 0, locals := 87 }
def fX6_increase_j185 (l0 : Option Nat) (l3 : Int32) (l5 : Option Nat) (l6 : Int32) : dnM ((Int32) ⊕ (Unit)) :=
  dnP (.inl (l6 + 1))
def fX6_increase_b76 (c0 : Option Nat) (c3 : Int32) (c5 : Option Nat) (s76 : Int32) : dnM ((Int32) ⊕ (Unit)) :=
  dnB (dnGI c5 4 2) fun v3 =>
  if v3 ≤ s76 then
  (dnP (.inr ()))
  else
  (if ¬ c3 = 6 then
  (if ¬ c3 = 7 then
  (dnB (dnGR c5 4 4) fun v4 =>
  dnB (dnGR c5 4 4) fun v5 =>
  dnB (dnAL v5 102 s76) fun v6 =>
  dnB (dnGR c0 5 2) fun v7 =>
  dnB (dnGR v7 4 4) fun v8 =>
  dnB (dnAL v8 102 0) fun v9 =>
  dnB (fX12_narrowed c3 (v6 + v9)) fun v10 =>
  dnB (dnTL v4 102 s76 v10) fun _ =>
  fX6_increase_j185 c0 c3 c5 s76)
  else
  (dnB (dnGR c5 4 5) fun v11 =>
  dnB (dnGR c5 4 5) fun v12 =>
  dnB (dnAD v12 103 s76) fun v13 =>
  dnB (dnGR c0 5 2) fun v14 =>
  dnB (dnGR v14 4 5) fun v15 =>
  dnB (dnAD v15 103 0) fun v16 =>
  dnB (dnN64 (FP.dadd v13 v16)) fun v17 =>
  dnB (dnTD v11 103 s76 v17) fun _ =>
  fX6_increase_j185 c0 c3 c5 s76))
  else
  (dnB (dnGR c5 4 5) fun v18 =>
  dnB (dnCv c5 4 (fX5_floatAt c5 s76)) fun v19 =>
  dnB (dnGR c0 5 2) fun v20 =>
  dnB (dnCv v20 4 (fX5_floatAt v20 0)) fun v21 =>
  dnB (dnN32 (FP.fadd v19 v21)) fun v22 =>
  dnB (dnN64 (FP.f2d v22)) fun v23 =>
  dnB (dnTD v18 103 s76 v23) fun _ =>
  fX6_increase_j185 c0 c3 c5 s76))
def fX6_increase_j62 (l0 : Option Nat) (l3 : Int32) (l4 : Int32) (l5 : Option Nat) : dnM Int32 :=
  dnB (dnGR l0 5 2) fun v1 =>
  dnB (dnCv v1 4 (fX5_become v1 l3 ((l4 : Int32).toInt64))) fun _ =>
  dnB (dnIt 1000 (fX6_increase_b76 l0 l3 l5) 0) fun q76 =>
  dnB (dnGI l5 4 2) fun v24 =>
  dnP v24
def fX6_increase (r0 : Option Nat) (p1 : Int32) (p2 : Int32) (p3 : Int32) (p4 : Int32) : dnM Int32 :=
  dnB (fX12_isGrid p1) fun v25 =>
  if v25 = true then
  (dnB (fX12_isPlain p3) fun v26 =>
  if v26 = true then
  (dnB (dnGR r0 5 0) fun v27 =>
  dnB (dnCv v27 7 (fX9_rowAt v27 p1 p2)) fun v28 =>
  v28.elim
  (dnB (dnGR r0 5 0) fun v30 =>
  dnB (dnCv v30 7 (fX9_rowFault v30 p1 p2)) fun v31 =>
  dnP v31)
  (fun v29 => dnB (dnGI (some v29) 4 2) fun v32 =>
  if v32 ≤ 0 then
  (fX6_increase_j62 r0 p3 p4 (some v29))
  else
  (dnB (dnGI (some v29) 4 1) fun v33 =>
  if v33 = p3 then
  (fX6_increase_j62 r0 p3 p4 (some v29))
  else
  (dnP (-7)))))
  else
  (dnP (-1)))
  else
  (dnP (-1))
abbrev jX6_increase (w : dnWd) (x : dnX) (b : Nat) := dnD w x b (fun _ => True) cX6_increase RX6 7 rmX6_increase "increase" eI
set_option maxHeartbeats 4000000 in
set_option maxRecDepth 100000 in
theorem mX6_increase (w : dnWd) (x : dnX) (b : Nat) (r0 : Option Nat) (p1 : Int32) (p2 : Int32) (p3 : Int32) (p4 : Int32) : dnMt w x b yX6_increase cX6_increase 7 (some .int) rmX6_increase eI [dnV b r0, .int p1, .int p2, .int p3, .int p4] (fX6_increase r0 p1 p2 p3 p4) := by
  have hlv : lv_args 0 [dnV b r0, .int p1, .int p2, .int p3, .int p4] = [(0, dnV b r0), (1, .int p1), (2, .int p2), (3, .int p3), (4, .int p4)] := by cases r0 <;> rfl
  refine dn_mt (by decide +kernel) roI (by cases r0 <;> exact (Nat.le_of_ble_eq_true rfl)) ?_
  rw [hlv]
  refine dn_top ?_
  show jX6_increase w x b 0 0 0 _ [] (dnB _ dnP)
  unfold fX6_increase
  have hj62 : ∀ (l0 : Option Nat) (l3 : Int32) (l4 : Int32) (l5 : Option Nat), jX6_increase w x b 62 0 0 [(0, dnV b l0), (3, .int l3), (4, .int l4), (5, dnV b l5)] [] (dnB (fX6_increase_j62 l0 l3 l4 l5) dnP) := by
    intro l0 l3 l4 l5
    unfold fX6_increase_j62
    refine dn_aload_n (pc := 62) l0 0 dX6_increase_62 rfl ?_
    refine dn_getR (pc := 63) l0 lRX6_14 dX6_increase_63 (fun v1 => ?_)
    refine dn_iload_n (pc := 66) 1 dX6_increase_66 rfl ?_
    refine dn_iload (pc := 67) 2 dX6_increase_67 rfl ?_
    refine dn_i2l (pc := 69) dX6_increase_69 ?_
    refine dn_callV0U (pc := 70) [.int l3, .long ((l4 : Int32).toInt64)] v1 kRX6_88 (mX5_become w x b v1 l3 ((l4 : Int32).toInt64)) rfl rfl (Nat.le_of_ble_eq_true rfl) ⟨(Nat.le_of_ble_eq_true rfl), (Nat.le_of_ble_eq_true rfl)⟩ ⟨rfl, rfl, (Nat.le_of_ble_eq_true rfl), (Nat.le_of_ble_eq_true rfl)⟩ dX6_increase_70 (fun _ => ?_)
    refine dn_iconst (pc := 73) (v := 0) dX6_increase_73 rfl ?_
    refine dn_istore (pc := 74) dX6_increase_74 (Nat.le_of_ble_eq_true rfl) (dnKp_nb 3 rfl (dn_cat b _) rfl (dnKp_of (lv2 := [(0, dnV b l0), (3, .int l3)]) [0, 1] rfl rfl)) ?_
    refine dn_assoc ?_
    refine dn_lv [2, 3, 1, 0] (lv2 := (fun s => [(0, dnV b l0), (3, .int l3), (5, dnV b l5), (6, .int s)]) 0) rfl ?_
    refine dn_loopE (pc := 76) (body := fX6_increase_b76 l0 l3 l5) 191 (fun s => [(0, dnV b l0), (3, .int l3), (5, dnV b l5), (6, .int s)]) (fun q => [(5, dnV b l5)]) (fun s76 K76 E76 hK76 hE76 => ?_) (fun q76 => ?_) 1000 0
    · unfold fX6_increase_b76
      have hj185 : ∀ (l6 : Int32), jX6_increase w x b 185 0 0 [(0, dnV b l0), (3, .int l3), (5, dnV b l5), (6, .int l6)] [] (dnB (fX6_increase_j185 l0 l3 l5 l6) (dnKo K76 E76)) := by
        intro l6
        unfold fX6_increase_j185
        refine dn_iinc (pc := 185) (l6 + 1) 3 dX6_increase_185 rfl rfl (Nat.le_of_ble_eq_true rfl) (dnKp_nb 2 rfl (dn_cat b _) rfl (dnKp_of (lv2 := [(0, dnV b l0), (3, .int l3)]) [0, 1] rfl rfl)) ?_
        refine dn_goto (pc := 188) 76 dX6_increase_188 rfl ?_
        refine dn_leaf ?_
        exact dn_lv [2, 3, 1, 0] rfl (hK76 (l6 + 1))
      refine dn_iload (pc := 76) 3 dX6_increase_76 rfl ?_
      refine dn_aload (pc := 78) l5 2 dX6_increase_78 rfl ?_
      refine dn_getI (pc := 80) l5 lRX6_92 dX6_increase_80 (fun v3 => ?_)
      refine dn_icmp_ge (pc := 83) 191 dX6_increase_83 rfl (fun _ => ?_) (fun _ => ?_)
      · refine dn_leaf ?_
        exact dn_lv [2] rfl (hE76 ())
      · refine dn_iload_n (pc := 86) 1 dX6_increase_86 rfl ?_
        refine dn_bipush (pc := 87) (v := 6) dX6_increase_87 rfl ?_
        refine dn_icmp_ne (pc := 89) 120 dX6_increase_89 rfl (fun _ => ?_) (fun _ => ?_)
        · refine dn_iload_n (pc := 120) 1 dX6_increase_120 rfl ?_
          refine dn_bipush (pc := 121) (v := 7) dX6_increase_121 rfl ?_
          refine dn_icmp_ne (pc := 123) 155 dX6_increase_123 rfl (fun _ => ?_) (fun _ => ?_)
          · refine dn_aload (pc := 155) l5 2 dX6_increase_155 rfl ?_
            refine dn_getR (pc := 157) l5 lRX6_146 dX6_increase_157 (fun v4 => ?_)
            refine dn_iload (pc := 160) 3 dX6_increase_160 rfl ?_
            refine dn_iload_n (pc := 162) 1 dX6_increase_162 rfl ?_
            refine dn_aload (pc := 163) l5 2 dX6_increase_163 rfl ?_
            refine dn_getR (pc := 165) l5 lRX6_146 dX6_increase_165 (fun v5 => ?_)
            refine dn_iload (pc := 168) 3 dX6_increase_168 rfl ?_
            refine dn_lald (pc := 170) v5 dX6_increase_170 (fun v6 => ?_)
            refine dn_aload_n (pc := 171) l0 0 dX6_increase_171 rfl ?_
            refine dn_getR (pc := 172) l0 lRX6_14 dX6_increase_172 (fun v7 => ?_)
            refine dn_getR (pc := 175) v7 lRX6_146 dX6_increase_175 (fun v8 => ?_)
            refine dn_iconst (pc := 178) (v := 0) dX6_increase_178 rfl ?_
            refine dn_lald (pc := 179) v8 dX6_increase_179 (fun v9 => ?_)
            refine dn_ladd (pc := 180) dX6_increase_180 ?_
            refine dn_callSN0L (pc := 181) [.int l3, .long (v6 + v9)]  kRX6_150 (mX12_narrowed w x b l3 (v6 + v9)) rfl rfl (Nat.le_of_ble_eq_true rfl) ⟨(Nat.le_of_ble_eq_true rfl), (Nat.le_of_ble_eq_true rfl)⟩ ⟨rfl, rfl, (Nat.le_of_ble_eq_true rfl), (Nat.le_of_ble_eq_true rfl)⟩ dX6_increase_181 (fun v10 => ?_)
            refine dn_last (pc := 184) v4 dX6_increase_184 ?_
            exact dn_lv [0, 1, 2, 3] rfl (hj185 s76)
          · refine dn_aload (pc := 126) l5 2 dX6_increase_126 rfl ?_
            refine dn_getR (pc := 128) l5 lRX6_138 dX6_increase_128 (fun v11 => ?_)
            refine dn_iload (pc := 131) 3 dX6_increase_131 rfl ?_
            refine dn_aload (pc := 133) l5 2 dX6_increase_133 rfl ?_
            refine dn_getR (pc := 135) l5 lRX6_138 dX6_increase_135 (fun v12 => ?_)
            refine dn_iload (pc := 138) 3 dX6_increase_138 rfl ?_
            refine dn_dald (pc := 140) v12 dX6_increase_140 (fun v13 => ?_)
            refine dn_aload_n (pc := 141) l0 0 dX6_increase_141 rfl ?_
            refine dn_getR (pc := 142) l0 lRX6_14 dX6_increase_142 (fun v14 => ?_)
            refine dn_getR (pc := 145) v14 lRX6_138 dX6_increase_145 (fun v15 => ?_)
            refine dn_iconst (pc := 148) (v := 0) dX6_increase_148 rfl ?_
            refine dn_dald (pc := 149) v15 dX6_increase_149 (fun v16 => ?_)
            refine dn_dadd (pc := 150) dX6_increase_150 (fun v17 => ?_)
            refine dn_dast (pc := 151) v11 dX6_increase_151 ?_
            refine dn_goto (pc := 152) 185 dX6_increase_152 rfl ?_
            exact dn_lv [0, 1, 2, 3] rfl (hj185 s76)
        · refine dn_aload (pc := 92) l5 2 dX6_increase_92 rfl ?_
          refine dn_getR (pc := 94) l5 lRX6_138 dX6_increase_94 (fun v18 => ?_)
          refine dn_iload (pc := 97) 3 dX6_increase_97 rfl ?_
          refine dn_aload (pc := 99) l5 2 dX6_increase_99 rfl ?_
          refine dn_iload (pc := 101) 3 dX6_increase_101 rfl ?_
          refine dn_callV0F (pc := 103) [.int s76] l5 kRX6_142 (mX5_floatAt w x b l5 s76) rfl rfl (Nat.le_of_ble_eq_true rfl) ⟨(Nat.le_of_ble_eq_true rfl), (Nat.le_of_ble_eq_true rfl)⟩ ⟨rfl, rfl, (Nat.le_of_ble_eq_true rfl), (Nat.le_of_ble_eq_true rfl)⟩ dX6_increase_103 (fun v19 => ?_)
          refine dn_aload_n (pc := 106) l0 0 dX6_increase_106 rfl ?_
          refine dn_getR (pc := 107) l0 lRX6_14 dX6_increase_107 (fun v20 => ?_)
          refine dn_iconst (pc := 110) (v := 0) dX6_increase_110 rfl ?_
          refine dn_callV0F (pc := 111) [.int 0] v20 kRX6_142 (mX5_floatAt w x b v20 0) rfl rfl (Nat.le_of_ble_eq_true rfl) ⟨(Nat.le_of_ble_eq_true rfl), (Nat.le_of_ble_eq_true rfl)⟩ ⟨rfl, rfl, (Nat.le_of_ble_eq_true rfl), (Nat.le_of_ble_eq_true rfl)⟩ dX6_increase_111 (fun v21 => ?_)
          refine dn_fadd (pc := 114) dX6_increase_114 (fun v22 => ?_)
          refine dn_f2d (pc := 115) dX6_increase_115 (fun v23 => ?_)
          refine dn_dast (pc := 116) v18 dX6_increase_116 ?_
          refine dn_goto (pc := 117) 185 dX6_increase_117 rfl ?_
          exact dn_lv [0, 1, 2, 3] rfl (hj185 s76)
    · refine dn_aload (pc := 191) l5 0 dX6_increase_191 rfl ?_
      refine dn_getI (pc := 193) l5 lRX6_92 dX6_increase_193 (fun v24 => ?_)
      exact dn_ret (Nat.le_of_ble_eq_true rfl) (Nat.le_of_ble_eq_true rfl) rfl dX6_increase_196
  refine dn_iload_n (pc := 0) 1 dX6_increase_0 rfl ?_
  refine dn_callSN0Z (pc := 1) [.int p1]  kRX6_31 (mX12_isGrid w x b p1) rfl rfl (Nat.le_of_ble_eq_true rfl) ⟨(Nat.le_of_ble_eq_true rfl), (Nat.le_of_ble_eq_true rfl)⟩ ⟨rfl, rfl, (Nat.le_of_ble_eq_true rfl), (Nat.le_of_ble_eq_true rfl)⟩ dX6_increase_1 (fun v25 => ?_)
  refine dn_ifz_eq (pc := 4) 14 dX6_increase_4 rfl (fun _ => ?_) (fun _ => ?_)
  · refine dn_iload_n (pc := 7) 3 dX6_increase_7 rfl ?_
    refine dn_callSN0Z (pc := 8) [.int p3]  kRX6_78 (mX12_isPlain w x b p3) rfl rfl (Nat.le_of_ble_eq_true rfl) ⟨(Nat.le_of_ble_eq_true rfl), (Nat.le_of_ble_eq_true rfl)⟩ ⟨rfl, rfl, (Nat.le_of_ble_eq_true rfl), (Nat.le_of_ble_eq_true rfl)⟩ dX6_increase_8 (fun v26 => ?_)
    refine dn_ifz_ne (pc := 11) 16 dX6_increase_11 rfl (fun _ => ?_) (fun _ => ?_)
    · refine dn_aload_n (pc := 16) r0 0 dX6_increase_16 rfl ?_
      refine dn_getR (pc := 17) r0 lRX6_23 dX6_increase_17 (fun v27 => ?_)
      refine dn_iload_n (pc := 20) 1 dX6_increase_20 rfl ?_
      refine dn_iload_n (pc := 21) 2 dX6_increase_21 rfl ?_
      refine dn_callV0R (pc := 22) [.int p1, .int p2] v27 kRX6_35 (mX9_rowAt w x b v27 p1 p2) rfl rfl (Nat.le_of_ble_eq_true rfl) ⟨(Nat.le_of_ble_eq_true rfl), (Nat.le_of_ble_eq_true rfl)⟩ ⟨rfl, rfl, (Nat.le_of_ble_eq_true rfl), (Nat.le_of_ble_eq_true rfl)⟩ dX6_increase_22 (fun v28 => ?_)
      refine dn_astore (pc := 25) v28 dX6_increase_25 (Nat.le_of_ble_eq_true rfl) (dnKp_nb 4 rfl rfl rfl (dnKp_of (lv2 := [(0, dnV b r0), (1, .int p1), (2, .int p2), (3, .int p3)]) [0, 1, 2, 3] rfl rfl)) ?_
      refine dn_aload (pc := 27) v28 0 dX6_increase_27 rfl ?_
      refine dn_ifnonnull (pc := 29) v28 42 dX6_increase_29 rfl (fun e_ => ?_) (fun v29 e_ => ?_)
      · subst e_
        refine dn_aload_n (pc := 32) r0 2 dX6_increase_32 rfl ?_
        refine dn_getR (pc := 33) r0 lRX6_23 dX6_increase_33 (fun v30 => ?_)
        refine dn_iload_n (pc := 36) 3 dX6_increase_36 rfl ?_
        refine dn_iload_n (pc := 37) 4 dX6_increase_37 rfl ?_
        refine dn_callV0I (pc := 38) [.int p1, .int p2] v30 kRX6_41 (mX9_rowFault w x b v30 p1 p2) rfl rfl (Nat.le_of_ble_eq_true rfl) ⟨(Nat.le_of_ble_eq_true rfl), (Nat.le_of_ble_eq_true rfl)⟩ ⟨rfl, rfl, (Nat.le_of_ble_eq_true rfl), (Nat.le_of_ble_eq_true rfl)⟩ dX6_increase_38 (fun v31 => ?_)
        exact dn_ret (Nat.le_of_ble_eq_true rfl) (Nat.le_of_ble_eq_true rfl) rfl dX6_increase_41
      · subst e_
        refine dn_aload (pc := 42) (some v29) 0 dX6_increase_42 rfl ?_
        refine dn_getI (pc := 44) (some v29) lRX6_92 dX6_increase_44 (fun v32 => ?_)
        refine dn_if_le (pc := 47) 62 dX6_increase_47 rfl (fun _ => ?_) (fun _ => ?_)
        · exact dn_lv [2, 5, 1, 0] rfl (hj62 r0 p3 p4 (some v29))
        · refine dn_aload (pc := 50) (some v29) 0 dX6_increase_50 rfl ?_
          refine dn_getI (pc := 52) (some v29) lRX6_48 dX6_increase_52 (fun v33 => ?_)
          refine dn_iload_n (pc := 55) 5 dX6_increase_55 rfl ?_
          refine dn_icmp_eq (pc := 56) 62 dX6_increase_56 rfl (fun _ => ?_) (fun _ => ?_)
          · exact dn_lv [2, 5, 1, 0] rfl (hj62 r0 p3 p4 (some v29))
          · refine dn_bipush (pc := 59) (v := -7) dX6_increase_59 rfl ?_
            exact dn_ret (Nat.le_of_ble_eq_true rfl) (Nat.le_of_ble_eq_true rfl) rfl dX6_increase_61
    · refine dn_iconst (pc := 14) (v := -1) dX6_increase_14 rfl ?_
      exact dn_ret (Nat.le_of_ble_eq_true rfl) (Nat.le_of_ble_eq_true rfl) rfl dX6_increase_15
  · refine dn_iconst (pc := 14) (v := -1) dX6_increase_14 rfl ?_
    exact dn_ret (Nat.le_of_ble_eq_true rfl) (Nat.le_of_ble_eq_true rfl) rfl dX6_increase_15
abbrev rmX12_add : Room := { frames := 5, cells := 0, slots := 0, locals := 113 }
def fX12_add (r0 : Option Nat) (p1 : Int32) (p2 : Int32) (p3 : Int32) (p4 : Int32) : dnM Int32 :=
  dnB (dnGR r0 10 4) fun v1 =>
  dnB (dnCv v1 5 (fX6_increase v1 p1 p2 p3 p4)) fun v2 =>
  dnB (dnCv r0 10 (fX12_tally r0 v2)) fun v3 =>
  dnP v3
abbrev jX12_add (w : dnWd) (x : dnX) (b : Nat) := dnD w x b (fun _ => True) cX12_add RX12 5 rmX12_add "add" eI
set_option maxHeartbeats 4000000 in
set_option maxRecDepth 100000 in
theorem mX12_add (w : dnWd) (x : dnX) (b : Nat) (r0 : Option Nat) (p1 : Int32) (p2 : Int32) (p3 : Int32) (p4 : Int32) : dnMt w x b yX12_add cX12_add 5 (some .int) rmX12_add eI [dnV b r0, .int p1, .int p2, .int p3, .int p4] (fX12_add r0 p1 p2 p3 p4) := by
  have hlv : lv_args 0 [dnV b r0, .int p1, .int p2, .int p3, .int p4] = [(0, dnV b r0), (1, .int p1), (2, .int p2), (3, .int p3), (4, .int p4)] := by cases r0 <;> rfl
  refine dn_mt (by decide +kernel) roI (by cases r0 <;> exact (Nat.le_of_ble_eq_true rfl)) ?_
  rw [hlv]
  refine dn_top ?_
  show jX12_add w x b 0 0 0 _ [] (dnB _ dnP)
  unfold fX12_add
  refine dn_aload_n (pc := 0) r0 0 dX12_add_0 rfl ?_
  refine dn_aload_n (pc := 1) r0 0 dX12_add_1 rfl ?_
  refine dn_getR (pc := 2) r0 lRX12_35 dX12_add_2 (fun v1 => ?_)
  refine dn_iload_n (pc := 5) 1 dX12_add_5 rfl ?_
  refine dn_iload_n (pc := 6) 2 dX12_add_6 rfl ?_
  refine dn_iload_n (pc := 7) 3 dX12_add_7 rfl ?_
  refine dn_iload (pc := 8) 4 dX12_add_8 rfl ?_
  refine dn_callV0I (pc := 10) [.int p1, .int p2, .int p3, .int p4] v1 kRX12_160 (mX6_increase w x b v1 p1 p2 p3 p4) rfl rfl (Nat.le_of_ble_eq_true rfl) ⟨(Nat.le_of_ble_eq_true rfl), (Nat.le_of_ble_eq_true rfl)⟩ ⟨rfl, rfl, (Nat.le_of_ble_eq_true rfl), (Nat.le_of_ble_eq_true rfl)⟩ dX12_add_10 (fun v2 => ?_)
  refine dn_callV0I (pc := 13) [.int v2] r0 kRX12_91 (mX12_tally w x b r0 v2) rfl rfl (Nat.le_of_ble_eq_true rfl) ⟨(Nat.le_of_ble_eq_true rfl), (Nat.le_of_ble_eq_true rfl)⟩ ⟨rfl, rfl, (Nat.le_of_ble_eq_true rfl), (Nat.le_of_ble_eq_true rfl)⟩ dX12_add_13 (fun v3 => ?_)
  exact dn_ret (Nat.le_of_ble_eq_true rfl) (Nat.le_of_ble_eq_true rfl) rfl dX12_add_16
abbrev rmX12_isNumber : Room := { frames := 0, cells := 0, slots := 0, locals := 0 }
def fX12_isNumber (p0 : Int32) : dnM Bool :=
  if p0 < 1 then
  (dnP false)
  else
  (if 7 < p0 then
  (dnP false)
  else
  (dnP true))
abbrev jX12_isNumber (w : dnWd) (x : dnX) (b : Nat) := dnD w x b (fun _ => True) cX12_isNumber RX12 1 rmX12_isNumber "isNumber" eZ
set_option maxHeartbeats 4000000 in
set_option maxRecDepth 100000 in
theorem mX12_isNumber (w : dnWd) (x : dnX) (b : Nat) (p0 : Int32) : dnMt w x b yX12_isNumber cX12_isNumber 1 (some .boolean) rmX12_isNumber eZ [.int p0] (fX12_isNumber p0) := by
  have hlv : lv_args 0 [.int p0] = [(0, .int p0)] := by rfl
  refine dn_mt (by decide +kernel) roZ (by exact (Nat.le_of_ble_eq_true rfl)) ?_
  rw [hlv]
  refine dn_top ?_
  show jX12_isNumber w x b 0 0 0 _ [] (dnB _ dnP)
  unfold fX12_isNumber
  refine dn_iload_n (pc := 0) 0 dX12_isNumber_0 rfl ?_
  refine dn_iconst (pc := 1) (v := 1) dX12_isNumber_1 rfl ?_
  refine dn_icmp_lt (pc := 2) 15 dX12_isNumber_2 rfl (fun _ => ?_) (fun _ => ?_)
  · refine dn_iconst (pc := 15) (v := 0) dX12_isNumber_15 rfl ?_
    exact dn_ret (Nat.le_of_ble_eq_true rfl) (Nat.le_of_ble_eq_true rfl) rfl dX12_isNumber_16
  · refine dn_iload_n (pc := 5) 0 dX12_isNumber_5 rfl ?_
    refine dn_bipush (pc := 6) (v := 7) dX12_isNumber_6 rfl ?_
    refine dn_icmp_gt (pc := 8) 15 dX12_isNumber_8 rfl (fun _ => ?_) (fun _ => ?_)
    · refine dn_iconst (pc := 15) (v := 0) dX12_isNumber_15 rfl ?_
      exact dn_ret (Nat.le_of_ble_eq_true rfl) (Nat.le_of_ble_eq_true rfl) rfl dX12_isNumber_16
    · refine dn_iconst (pc := 11) (v := 1) dX12_isNumber_11 rfl ?_
      refine dn_goto (pc := 12) 16 dX12_isNumber_12 rfl ?_
      exact dn_ret (Nat.le_of_ble_eq_true rfl) (Nat.le_of_ble_eq_true rfl) rfl dX12_isNumber_16
abbrev rmX5_matches : Room := { frames := 2, cells := 0, slots := 0, locals := 41 }
def fX5_matches_j90 (l0 : Option Nat) (l1 : Int32) (l2 : Option Nat) (l3 : Int32) (l4 : Int32) (l5 : Int32) : dnM Bool :=
  if ¬ l4 = l5 then
  (dnP false)
  else
  (dnB (dnGR l0 4 4) fun v1 =>
  dnB (dnAL v1 102 l1) fun v2 =>
  dnB (dnGR l2 4 4) fun v3 =>
  dnB (dnAL v3 102 l3) fun v4 =>
  if ¬ (lg_cmp v2 v4) = 0 then
  (dnP false)
  else
  (dnP true))
def fX5_matches_j48 (l0 : Option Nat) (l1 : Int32) (l2 : Option Nat) (l3 : Int32) : dnM Bool :=
  dnB (dnCv l0 4 (fX5_doubleAt l0 l1)) fun v5 =>
  dnB (dnCv l2 4 (fX5_doubleAt l2 l3)) fun v6 =>
  if ¬ (Op.cmpValue (FP.dcmp v5 v6) .l) = 0 then
  (dnP false)
  else
  (dnP true)
def fX5_matches (r0 : Option Nat) (p1 : Int32) (r2 : Option Nat) (p3 : Int32) : dnM Bool :=
  dnB (dnGR r0 4 3) fun v7 =>
  dnB (dnAI v7 100 p1) fun v8 =>
  dnB (dnGR r2 4 3) fun v9 =>
  dnB (dnAI v9 100 p3) fun v10 =>
  dnB (fX12_isNumber v8) fun v11 =>
  if v11 = true then
  (dnB (fX12_isNumber v10) fun v12 =>
  if v12 = true then
  (dnB (fX12_isReal v8) fun v13 =>
  if v13 = true then
  (fX5_matches_j48 r0 p1 r2 p3)
  else
  (dnB (fX12_isReal v10) fun v14 =>
  if v14 = true then
  (fX5_matches_j48 r0 p1 r2 p3)
  else
  (dnB (dnGR r0 4 4) fun v15 =>
  dnB (dnAL v15 102 p1) fun v16 =>
  dnB (dnGR r2 4 4) fun v17 =>
  dnB (dnAL v17 102 p3) fun v18 =>
  if ¬ (lg_cmp v16 v18) = 0 then
  (dnP false)
  else
  (dnP true))))
  else
  (fX5_matches_j90 r0 p1 r2 p3 v8 v10))
  else
  (fX5_matches_j90 r0 p1 r2 p3 v8 v10)
abbrev jX5_matches (w : dnWd) (x : dnX) (b : Nat) := dnD w x b (fun _ => True) cX5_matches RX5 6 rmX5_matches "matches" eZ
set_option maxHeartbeats 4000000 in
set_option maxRecDepth 100000 in
theorem mX5_matches (w : dnWd) (x : dnX) (b : Nat) (r0 : Option Nat) (p1 : Int32) (r2 : Option Nat) (p3 : Int32) : dnMt w x b yX5_matches cX5_matches 6 (some .boolean) rmX5_matches eZ [dnV b r0, .int p1, dnV b r2, .int p3] (fX5_matches r0 p1 r2 p3) := by
  have hlv : lv_args 0 [dnV b r0, .int p1, dnV b r2, .int p3] = [(0, dnV b r0), (1, .int p1), (2, dnV b r2), (3, .int p3)] := by cases r0 <;> cases r2 <;> rfl
  refine dn_mt (by decide +kernel) roZ (by cases r0 <;> cases r2 <;> exact (Nat.le_of_ble_eq_true rfl)) ?_
  rw [hlv]
  refine dn_top ?_
  show jX5_matches w x b 0 0 0 _ [] (dnB _ dnP)
  unfold fX5_matches
  have hj90 : ∀ (l0 : Option Nat) (l1 : Int32) (l2 : Option Nat) (l3 : Int32) (l4 : Int32) (l5 : Int32), jX5_matches w x b 90 0 0 [(0, dnV b l0), (1, .int l1), (2, dnV b l2), (3, .int l3), (4, .int l4), (5, .int l5)] [] (dnB (fX5_matches_j90 l0 l1 l2 l3 l4 l5) dnP) := by
    intro l0 l1 l2 l3 l4 l5
    unfold fX5_matches_j90
    refine dn_iload (pc := 90) 4 dX5_matches_90 rfl ?_
    refine dn_iload (pc := 92) 5 dX5_matches_92 rfl ?_
    refine dn_icmp_ne (pc := 94) 117 dX5_matches_94 rfl (fun _ => ?_) (fun _ => ?_)
    · refine dn_iconst (pc := 117) (v := 0) dX5_matches_117 rfl ?_
      exact dn_ret (Nat.le_of_ble_eq_true rfl) (Nat.le_of_ble_eq_true rfl) rfl dX5_matches_118
    · refine dn_aload_n (pc := 97) l0 0 dX5_matches_97 rfl ?_
      refine dn_getR (pc := 98) l0 lRX5_22 dX5_matches_98 (fun v1 => ?_)
      refine dn_iload_n (pc := 101) 1 dX5_matches_101 rfl ?_
      refine dn_lald (pc := 102) v1 dX5_matches_102 (fun v2 => ?_)
      refine dn_aload_n (pc := 103) l2 2 dX5_matches_103 rfl ?_
      refine dn_getR (pc := 104) l2 lRX5_22 dX5_matches_104 (fun v3 => ?_)
      refine dn_iload_n (pc := 107) 3 dX5_matches_107 rfl ?_
      refine dn_lald (pc := 108) v3 dX5_matches_108 (fun v4 => ?_)
      refine dn_lcmp (pc := 109) dX5_matches_109 ?_
      refine dn_if_ne (pc := 110) 117 dX5_matches_110 rfl (fun _ => ?_) (fun _ => ?_)
      · refine dn_iconst (pc := 117) (v := 0) dX5_matches_117 rfl ?_
        exact dn_ret (Nat.le_of_ble_eq_true rfl) (Nat.le_of_ble_eq_true rfl) rfl dX5_matches_118
      · refine dn_iconst (pc := 113) (v := 1) dX5_matches_113 rfl ?_
        refine dn_goto (pc := 114) 118 dX5_matches_114 rfl ?_
        exact dn_ret (Nat.le_of_ble_eq_true rfl) (Nat.le_of_ble_eq_true rfl) rfl dX5_matches_118
  have hj48 : ∀ (l0 : Option Nat) (l1 : Int32) (l2 : Option Nat) (l3 : Int32), jX5_matches w x b 48 0 0 [(0, dnV b l0), (1, .int l1), (2, dnV b l2), (3, .int l3)] [] (dnB (fX5_matches_j48 l0 l1 l2 l3) dnP) := by
    intro l0 l1 l2 l3
    unfold fX5_matches_j48
    refine dn_aload_n (pc := 48) l0 0 dX5_matches_48 rfl ?_
    refine dn_iload_n (pc := 49) 1 dX5_matches_49 rfl ?_
    refine dn_callV0D (pc := 50) [.int l1] l0 kRX5_79 (mX5_doubleAt w x b l0 l1) rfl rfl (Nat.le_of_ble_eq_true rfl) ⟨(Nat.le_of_ble_eq_true rfl), (Nat.le_of_ble_eq_true rfl)⟩ ⟨rfl, rfl, (Nat.le_of_ble_eq_true rfl), (Nat.le_of_ble_eq_true rfl)⟩ dX5_matches_50 (fun v5 => ?_)
    refine dn_aload_n (pc := 53) l2 2 dX5_matches_53 rfl ?_
    refine dn_iload_n (pc := 54) 3 dX5_matches_54 rfl ?_
    refine dn_callV0D (pc := 55) [.int l3] l2 kRX5_79 (mX5_doubleAt w x b l2 l3) rfl rfl (Nat.le_of_ble_eq_true rfl) ⟨(Nat.le_of_ble_eq_true rfl), (Nat.le_of_ble_eq_true rfl)⟩ ⟨rfl, rfl, (Nat.le_of_ble_eq_true rfl), (Nat.le_of_ble_eq_true rfl)⟩ dX5_matches_55 (fun v6 => ?_)
    refine dn_dcmp (pc := 58) dX5_matches_58 ?_
    refine dn_if_ne (pc := 59) 66 dX5_matches_59 rfl (fun _ => ?_) (fun _ => ?_)
    · refine dn_iconst (pc := 66) (v := 0) dX5_matches_66 rfl ?_
      exact dn_ret (Nat.le_of_ble_eq_true rfl) (Nat.le_of_ble_eq_true rfl) rfl dX5_matches_67
    · refine dn_iconst (pc := 62) (v := 1) dX5_matches_62 rfl ?_
      refine dn_goto (pc := 63) 67 dX5_matches_63 rfl ?_
      exact dn_ret (Nat.le_of_ble_eq_true rfl) (Nat.le_of_ble_eq_true rfl) rfl dX5_matches_67
  refine dn_aload_n (pc := 0) r0 0 dX5_matches_0 rfl ?_
  refine dn_getR (pc := 1) r0 lRX5_18 dX5_matches_1 (fun v7 => ?_)
  refine dn_iload_n (pc := 4) 1 dX5_matches_4 rfl ?_
  refine dn_iald (pc := 5) v7 dX5_matches_5 (fun v8 => ?_)
  refine dn_istore (pc := 6) dX5_matches_6 (Nat.le_of_ble_eq_true rfl) (dnKp_nb 3 rfl rfl rfl (dnKp_of (lv2 := [(0, dnV b r0), (1, .int p1), (2, dnV b r2)]) [0, 1, 2] rfl rfl)) ?_
  refine dn_aload_n (pc := 8) r2 4 dX5_matches_8 rfl ?_
  refine dn_getR (pc := 9) r2 lRX5_18 dX5_matches_9 (fun v9 => ?_)
  refine dn_iload_n (pc := 12) 1 dX5_matches_12 rfl ?_
  refine dn_iald (pc := 13) v9 dX5_matches_13 (fun v10 => ?_)
  refine dn_istore (pc := 14) dX5_matches_14 (Nat.le_of_ble_eq_true rfl) (dnKp_nb 0 rfl rfl rfl (dnKp_of (lv2 := [(3, .int p3), (0, dnV b r0), (1, .int p1), (2, dnV b r2)]) [1, 2, 3, 4] rfl rfl)) ?_
  refine dn_iload (pc := 16) 1 dX5_matches_16 rfl ?_
  refine dn_callSN0Z (pc := 18) [.int v8]  kRX5_87 (mX12_isNumber w x b v8) rfl rfl (Nat.le_of_ble_eq_true rfl) ⟨(Nat.le_of_ble_eq_true rfl), (Nat.le_of_ble_eq_true rfl)⟩ ⟨rfl, rfl, (Nat.le_of_ble_eq_true rfl), (Nat.le_of_ble_eq_true rfl)⟩ dX5_matches_18 (fun v11 => ?_)
  refine dn_ifz_eq (pc := 21) 90 dX5_matches_21 rfl (fun _ => ?_) (fun _ => ?_)
  · refine dn_iload (pc := 24) 0 dX5_matches_24 rfl ?_
    refine dn_callSN0Z (pc := 26) [.int v10]  kRX5_87 (mX12_isNumber w x b v10) rfl rfl (Nat.le_of_ble_eq_true rfl) ⟨(Nat.le_of_ble_eq_true rfl), (Nat.le_of_ble_eq_true rfl)⟩ ⟨rfl, rfl, (Nat.le_of_ble_eq_true rfl), (Nat.le_of_ble_eq_true rfl)⟩ dX5_matches_26 (fun v12 => ?_)
    refine dn_ifz_eq (pc := 29) 90 dX5_matches_29 rfl (fun _ => ?_) (fun _ => ?_)
    · refine dn_iload (pc := 32) 1 dX5_matches_32 rfl ?_
      refine dn_callSN0Z (pc := 34) [.int v8]  kRX5_72 (mX12_isReal w x b v8) rfl rfl (Nat.le_of_ble_eq_true rfl) ⟨(Nat.le_of_ble_eq_true rfl), (Nat.le_of_ble_eq_true rfl)⟩ ⟨rfl, rfl, (Nat.le_of_ble_eq_true rfl), (Nat.le_of_ble_eq_true rfl)⟩ dX5_matches_34 (fun v13 => ?_)
      refine dn_ifz_ne (pc := 37) 48 dX5_matches_37 rfl (fun _ => ?_) (fun _ => ?_)
      · exact dn_lv [3, 4, 5, 2] rfl (hj48 r0 p1 r2 p3)
      · refine dn_iload (pc := 40) 0 dX5_matches_40 rfl ?_
        refine dn_callSN0Z (pc := 42) [.int v10]  kRX5_72 (mX12_isReal w x b v10) rfl rfl (Nat.le_of_ble_eq_true rfl) ⟨(Nat.le_of_ble_eq_true rfl), (Nat.le_of_ble_eq_true rfl)⟩ ⟨rfl, rfl, (Nat.le_of_ble_eq_true rfl), (Nat.le_of_ble_eq_true rfl)⟩ dX5_matches_42 (fun v14 => ?_)
        refine dn_ifz_eq (pc := 45) 68 dX5_matches_45 rfl (fun _ => ?_) (fun _ => ?_)
        · exact dn_lv [3, 4, 5, 2] rfl (hj48 r0 p1 r2 p3)
        · refine dn_aload_n (pc := 68) r0 3 dX5_matches_68 rfl ?_
          refine dn_getR (pc := 69) r0 lRX5_22 dX5_matches_69 (fun v15 => ?_)
          refine dn_iload_n (pc := 72) 4 dX5_matches_72 rfl ?_
          refine dn_lald (pc := 73) v15 dX5_matches_73 (fun v16 => ?_)
          refine dn_aload_n (pc := 74) r2 5 dX5_matches_74 rfl ?_
          refine dn_getR (pc := 75) r2 lRX5_22 dX5_matches_75 (fun v17 => ?_)
          refine dn_iload_n (pc := 78) 2 dX5_matches_78 rfl ?_
          refine dn_lald (pc := 79) v17 dX5_matches_79 (fun v18 => ?_)
          refine dn_lcmp (pc := 80) dX5_matches_80 ?_
          refine dn_if_ne (pc := 81) 88 dX5_matches_81 rfl (fun _ => ?_) (fun _ => ?_)
          · refine dn_iconst (pc := 88) (v := 0) dX5_matches_88 rfl ?_
            exact dn_ret (Nat.le_of_ble_eq_true rfl) (Nat.le_of_ble_eq_true rfl) rfl dX5_matches_89
          · refine dn_iconst (pc := 84) (v := 1) dX5_matches_84 rfl ?_
            refine dn_goto (pc := 85) 89 dX5_matches_85 rfl ?_
            exact dn_ret (Nat.le_of_ble_eq_true rfl) (Nat.le_of_ble_eq_true rfl) rfl dX5_matches_89
    · exact dn_lv [3, 4, 5, 2, 1, 0] rfl (hj90 r0 p1 r2 p3 v8 v10)
  · exact dn_lv [3, 4, 5, 2, 1, 0] rfl (hj90 r0 p1 r2 p3 v8 v10)
abbrev rmX6_countMatches : Room := { frames := 4, cells := 0, slots := 0, locals := 87 }
def fX6_countMatches_j117 (l5 : Option Nat) (l6 : Option Nat) (l8 : Int32) (s0 : Int32) (s1 : Bool) : dnM ((Int32 × Int32) ⊕ (Int32)) :=
  dnP (.inl ((s0 + (dnZ s1)), (l8 + 1)))
def fX6_countMatches_b76 (c5 : Option Nat) (c6 : Option Nat) (s76 : Int32 × Int32) : dnM ((Int32 × Int32) ⊕ (Int32)) :=
  dnB (dnGI c5 4 2) fun v13 =>
  if v13 ≤ s76.2 then
  (dnP (.inr s76.1))
  else
  (dnB (dnGI c6 4 2) fun v14 =>
  if v14 ≤ s76.2 then
  (dnP (.inr s76.1))
  else
  (dnB (dnCv c5 4 (fX5_matches c5 s76.2 c6 s76.2)) fun v15 =>
  if v15 = true then
  (fX6_countMatches_j117 c5 c6 s76.2 s76.1 true)
  else
  (fX6_countMatches_j117 c5 c6 s76.2 s76.1 false)))
def fX6_countMatches (r0 : Option Nat) (p1 : Int32) (p2 : Int32) (p3 : Int32) (p4 : Int32) : dnM Int32 :=
  dnB (fX12_isGrid p1) fun v1 =>
  if v1 = true then
  (dnB (fX12_isGrid p3) fun v2 =>
  if v2 = true then
  (dnB (dnGR r0 5 0) fun v3 =>
  dnB (dnCv v3 7 (fX9_rowAt v3 p1 p2)) fun v4 =>
  v4.elim
  (dnB (dnGR r0 5 0) fun v6 =>
  dnB (dnCv v6 7 (fX9_rowFault v6 p1 p2)) fun v7 =>
  dnP v7)
  (fun v5 => dnB (dnGR r0 5 0) fun v8 =>
  dnB (dnCv v8 7 (fX9_rowAt v8 p3 p4)) fun v9 =>
  v9.elim
  (dnB (dnGR r0 5 0) fun v11 =>
  dnB (dnCv v11 7 (fX9_rowFault v11 p3 p4)) fun v12 =>
  dnP v12)
  (fun v10 => dnB (dnIt 1000 (fX6_countMatches_b76 (some v5) (some v10)) (0, 0)) fun q76 =>
  dnP q76)))
  else
  (dnP (-1)))
  else
  (dnP (-1))
abbrev jX6_countMatches (w : dnWd) (x : dnX) (b : Nat) := dnD w x b (fun _ => True) cX6_countMatches RX6 9 rmX6_countMatches "countMatches" eI
set_option maxHeartbeats 4000000 in
set_option maxRecDepth 100000 in
theorem mX6_countMatches (w : dnWd) (x : dnX) (b : Nat) (r0 : Option Nat) (p1 : Int32) (p2 : Int32) (p3 : Int32) (p4 : Int32) : dnMt w x b yX6_countMatches cX6_countMatches 9 (some .int) rmX6_countMatches eI [dnV b r0, .int p1, .int p2, .int p3, .int p4] (fX6_countMatches r0 p1 p2 p3 p4) := by
  have hlv : lv_args 0 [dnV b r0, .int p1, .int p2, .int p3, .int p4] = [(0, dnV b r0), (1, .int p1), (2, .int p2), (3, .int p3), (4, .int p4)] := by cases r0 <;> rfl
  refine dn_mt (by decide +kernel) roI (by cases r0 <;> exact (Nat.le_of_ble_eq_true rfl)) ?_
  rw [hlv]
  refine dn_top ?_
  show jX6_countMatches w x b 0 0 0 _ [] (dnB _ dnP)
  unfold fX6_countMatches
  refine dn_iload_n (pc := 0) 1 dX6_countMatches_0 rfl ?_
  refine dn_callSN0Z (pc := 1) [.int p1]  kRX6_31 (mX12_isGrid w x b p1) rfl rfl (Nat.le_of_ble_eq_true rfl) ⟨(Nat.le_of_ble_eq_true rfl), (Nat.le_of_ble_eq_true rfl)⟩ ⟨rfl, rfl, (Nat.le_of_ble_eq_true rfl), (Nat.le_of_ble_eq_true rfl)⟩ dX6_countMatches_1 (fun v1 => ?_)
  refine dn_ifz_eq (pc := 4) 14 dX6_countMatches_4 rfl (fun _ => ?_) (fun _ => ?_)
  · refine dn_iload_n (pc := 7) 3 dX6_countMatches_7 rfl ?_
    refine dn_callSN0Z (pc := 8) [.int p3]  kRX6_31 (mX12_isGrid w x b p3) rfl rfl (Nat.le_of_ble_eq_true rfl) ⟨(Nat.le_of_ble_eq_true rfl), (Nat.le_of_ble_eq_true rfl)⟩ ⟨rfl, rfl, (Nat.le_of_ble_eq_true rfl), (Nat.le_of_ble_eq_true rfl)⟩ dX6_countMatches_8 (fun v2 => ?_)
    refine dn_ifz_ne (pc := 11) 16 dX6_countMatches_11 rfl (fun _ => ?_) (fun _ => ?_)
    · refine dn_aload_n (pc := 16) r0 0 dX6_countMatches_16 rfl ?_
      refine dn_getR (pc := 17) r0 lRX6_23 dX6_countMatches_17 (fun v3 => ?_)
      refine dn_iload_n (pc := 20) 1 dX6_countMatches_20 rfl ?_
      refine dn_iload_n (pc := 21) 2 dX6_countMatches_21 rfl ?_
      refine dn_callV0R (pc := 22) [.int p1, .int p2] v3 kRX6_35 (mX9_rowAt w x b v3 p1 p2) rfl rfl (Nat.le_of_ble_eq_true rfl) ⟨(Nat.le_of_ble_eq_true rfl), (Nat.le_of_ble_eq_true rfl)⟩ ⟨rfl, rfl, (Nat.le_of_ble_eq_true rfl), (Nat.le_of_ble_eq_true rfl)⟩ dX6_countMatches_22 (fun v4 => ?_)
      refine dn_astore (pc := 25) v4 dX6_countMatches_25 (Nat.le_of_ble_eq_true rfl) (dnKp_nb 4 rfl rfl rfl (dnKp_of (lv2 := [(0, dnV b r0), (1, .int p1), (2, .int p2), (3, .int p3)]) [0, 1, 2, 3] rfl rfl)) ?_
      refine dn_aload (pc := 27) v4 0 dX6_countMatches_27 rfl ?_
      refine dn_ifnonnull (pc := 29) v4 42 dX6_countMatches_29 rfl (fun e_ => ?_) (fun v5 e_ => ?_)
      · subst e_
        refine dn_aload_n (pc := 32) r0 2 dX6_countMatches_32 rfl ?_
        refine dn_getR (pc := 33) r0 lRX6_23 dX6_countMatches_33 (fun v6 => ?_)
        refine dn_iload_n (pc := 36) 3 dX6_countMatches_36 rfl ?_
        refine dn_iload_n (pc := 37) 4 dX6_countMatches_37 rfl ?_
        refine dn_callV0I (pc := 38) [.int p1, .int p2] v6 kRX6_41 (mX9_rowFault w x b v6 p1 p2) rfl rfl (Nat.le_of_ble_eq_true rfl) ⟨(Nat.le_of_ble_eq_true rfl), (Nat.le_of_ble_eq_true rfl)⟩ ⟨rfl, rfl, (Nat.le_of_ble_eq_true rfl), (Nat.le_of_ble_eq_true rfl)⟩ dX6_countMatches_38 (fun v7 => ?_)
        exact dn_ret (Nat.le_of_ble_eq_true rfl) (Nat.le_of_ble_eq_true rfl) rfl dX6_countMatches_41
      · subst e_
        refine dn_aload_n (pc := 42) r0 2 dX6_countMatches_42 rfl ?_
        refine dn_getR (pc := 43) r0 lRX6_23 dX6_countMatches_43 (fun v8 => ?_)
        refine dn_iload_n (pc := 46) 5 dX6_countMatches_46 rfl ?_
        refine dn_iload (pc := 47) 1 dX6_countMatches_47 rfl ?_
        refine dn_callV0R (pc := 49) [.int p3, .int p4] v8 kRX6_35 (mX9_rowAt w x b v8 p3 p4) rfl rfl (Nat.le_of_ble_eq_true rfl) ⟨(Nat.le_of_ble_eq_true rfl), (Nat.le_of_ble_eq_true rfl)⟩ ⟨rfl, rfl, (Nat.le_of_ble_eq_true rfl), (Nat.le_of_ble_eq_true rfl)⟩ dX6_countMatches_49 (fun v9 => ?_)
        refine dn_astore (pc := 52) v9 dX6_countMatches_52 (Nat.le_of_ble_eq_true rfl) (dnKp_nb 0 rfl (dn_cat b _) rfl (dnKp_of (lv2 := [(4, .int p4), (0, dnV b r0), (3, .int p3)]) [1, 2, 5] rfl rfl)) ?_
        refine dn_aload (pc := 54) v9 0 dX6_countMatches_54 rfl ?_
        refine dn_ifnonnull (pc := 56) v9 70 dX6_countMatches_56 rfl (fun e_ => ?_) (fun v10 e_ => ?_)
        · subst e_
          refine dn_aload_n (pc := 59) r0 3 dX6_countMatches_59 rfl ?_
          refine dn_getR (pc := 60) r0 lRX6_23 dX6_countMatches_60 (fun v11 => ?_)
          refine dn_iload_n (pc := 63) 4 dX6_countMatches_63 rfl ?_
          refine dn_iload (pc := 64) 2 dX6_countMatches_64 rfl ?_
          refine dn_callV0I (pc := 66) [.int p3, .int p4] v11 kRX6_41 (mX9_rowFault w x b v11 p3 p4) rfl rfl (Nat.le_of_ble_eq_true rfl) ⟨(Nat.le_of_ble_eq_true rfl), (Nat.le_of_ble_eq_true rfl)⟩ ⟨rfl, rfl, (Nat.le_of_ble_eq_true rfl), (Nat.le_of_ble_eq_true rfl)⟩ dX6_countMatches_66 (fun v12 => ?_)
          exact dn_ret (Nat.le_of_ble_eq_true rfl) (Nat.le_of_ble_eq_true rfl) rfl dX6_countMatches_69
        · subst e_
          refine dn_iconst (pc := 70) (v := 0) dX6_countMatches_70 rfl ?_
          refine dn_istore (pc := 71) dX6_countMatches_71 (Nat.le_of_ble_eq_true rfl) (dnKp_nb 0 rfl (dn_cat b _) rfl (dnKp_of (lv2 := [(5, dnV b (some v5))]) [1] rfl rfl)) ?_
          refine dn_iconst (pc := 73) (v := 0) dX6_countMatches_73 rfl ?_
          refine dn_istore (pc := 74) dX6_countMatches_74 (Nat.le_of_ble_eq_true rfl) (dnKp_nb 0 rfl rfl rfl (dnKp_of (lv2 := [(6, dnV b (some v10)), (5, dnV b (some v5))]) [1, 2] rfl rfl)) ?_
          refine dn_assoc ?_
          refine dn_lv [3, 2, 1, 0] (lv2 := (fun s => [(5, dnV b (some v5)), (6, dnV b (some v10)), (7, .int s.1), (8, .int s.2)]) (0, 0)) rfl ?_
          refine dn_loopE (pc := 76) (body := fX6_countMatches_b76 (some v5) (some v10)) 126 (fun s => [(5, dnV b (some v5)), (6, dnV b (some v10)), (7, .int s.1), (8, .int s.2)]) (fun q => [(7, .int q)]) (fun s76 K76 E76 hK76 hE76 => ?_) (fun q76 => ?_) 1000 (0, 0)
          · unfold fX6_countMatches_b76
            have hj117 : ∀ (l8 : Int32) (s0 : Int32) (s1 : Bool), jX6_countMatches w x b 117 0 0 [(5, dnV b (some v5)), (6, dnV b (some v10)), (8, .int l8)] [.int (dnZ s1), .int s0] (dnB (fX6_countMatches_j117 (some v5) (some v10) l8 s0 s1) (dnKo K76 E76)) := by
              intro l8 s0 s1
              unfold fX6_countMatches_j117
              refine dn_iadd (pc := 117) dX6_countMatches_117 ?_
              refine dn_istore (pc := 118) dX6_countMatches_118 (Nat.le_of_ble_eq_true rfl) (dnKp_nb 1 rfl (dn_cat b _) rfl (dnKp_of (lv2 := [(5, dnV b (some v5)), (8, .int l8)]) [0, 2] rfl rfl)) ?_
              refine dn_iinc (pc := 120) (l8 + 1) 3 dX6_countMatches_120 rfl rfl (Nat.le_of_ble_eq_true rfl) (dnKp_nb 0 rfl rfl rfl (dnKp_of (lv2 := [(6, dnV b (some v10)), (5, dnV b (some v5))]) [1, 2] rfl rfl)) ?_
              refine dn_goto (pc := 123) 76 dX6_countMatches_123 rfl ?_
              refine dn_leaf ?_
              exact dn_lv [3, 2, 1, 0] rfl (hK76 ((s0 + (dnZ s1)), (l8 + 1)))
            refine dn_iload (pc := 76) 3 dX6_countMatches_76 rfl ?_
            refine dn_aload (pc := 78) (some v5) 0 dX6_countMatches_78 rfl ?_
            refine dn_getI (pc := 80) (some v5) lRX6_92 dX6_countMatches_80 (fun v13 => ?_)
            refine dn_icmp_ge (pc := 83) 126 dX6_countMatches_83 rfl (fun _ => ?_) (fun _ => ?_)
            · refine dn_leaf ?_
              exact dn_lv [2] rfl (hE76 s76.1)
            · refine dn_iload (pc := 86) 3 dX6_countMatches_86 rfl ?_
              refine dn_aload (pc := 88) (some v10) 1 dX6_countMatches_88 rfl ?_
              refine dn_getI (pc := 90) (some v10) lRX6_92 dX6_countMatches_90 (fun v14 => ?_)
              refine dn_icmp_ge (pc := 93) 126 dX6_countMatches_93 rfl (fun _ => ?_) (fun _ => ?_)
              · refine dn_leaf ?_
                exact dn_lv [2] rfl (hE76 s76.1)
              · refine dn_iload (pc := 96) 2 dX6_countMatches_96 rfl ?_
                refine dn_aload (pc := 98) (some v5) 0 dX6_countMatches_98 rfl ?_
                refine dn_iload (pc := 100) 3 dX6_countMatches_100 rfl ?_
                refine dn_aload (pc := 102) (some v10) 1 dX6_countMatches_102 rfl ?_
                refine dn_iload (pc := 104) 3 dX6_countMatches_104 rfl ?_
                refine dn_callV0Z (pc := 106) [.int s76.2, dnV b (some v10), .int s76.2] (some v5) kRX6_95 (mX5_matches w x b (some v5) s76.2 (some v10) s76.2) rfl rfl (Nat.le_of_ble_eq_true rfl) ⟨(Nat.le_of_ble_eq_true rfl), (Nat.le_of_ble_eq_true rfl)⟩ ⟨rfl, rfl, (Nat.le_of_ble_eq_true rfl), (Nat.le_of_ble_eq_true rfl)⟩ dX6_countMatches_106 (fun v15 => ?_)
                refine dn_ifz_eq (pc := 109) 116 dX6_countMatches_109 rfl (fun _ => ?_) (fun _ => ?_)
                · refine dn_iconst (pc := 112) (v := 1) dX6_countMatches_112 rfl ?_
                  refine dn_goto (pc := 113) 117 dX6_countMatches_113 rfl ?_
                  exact dn_lv [0, 1, 3] rfl (hj117 s76.2 s76.1 true)
                · refine dn_iconst (pc := 116) (v := 0) dX6_countMatches_116 rfl ?_
                  exact dn_lv [0, 1, 3] rfl (hj117 s76.2 s76.1 false)
          · refine dn_iload (pc := 126) 0 dX6_countMatches_126 rfl ?_
            exact dn_ret (Nat.le_of_ble_eq_true rfl) (Nat.le_of_ble_eq_true rfl) rfl dX6_countMatches_128
    · refine dn_iconst (pc := 14) (v := -1) dX6_countMatches_14 rfl ?_
      exact dn_ret (Nat.le_of_ble_eq_true rfl) (Nat.le_of_ble_eq_true rfl) rfl dX6_countMatches_15
  · refine dn_iconst (pc := 14) (v := -1) dX6_countMatches_14 rfl ?_
    exact dn_ret (Nat.le_of_ble_eq_true rfl) (Nat.le_of_ble_eq_true rfl) rfl dX6_countMatches_15
abbrev rmX12_alike : Room := { frames := 5, cells := 0, slots := 0, locals := 115 }
def fX12_alike (r0 : Option Nat) (p1 : Int32) (p2 : Int32) (p3 : Int32) (p4 : Int32) : dnM Int32 :=
  dnB (dnGR r0 10 4) fun v1 =>
  dnB (dnCv v1 5 (fX6_countMatches v1 p1 p2 p3 p4)) fun v2 =>
  dnB (dnCv r0 10 (fX12_tally r0 v2)) fun v3 =>
  dnP v3
abbrev jX12_alike (w : dnWd) (x : dnX) (b : Nat) := dnD w x b (fun _ => True) cX12_alike RX12 5 rmX12_alike "alike" eI
set_option maxHeartbeats 4000000 in
set_option maxRecDepth 100000 in
theorem mX12_alike (w : dnWd) (x : dnX) (b : Nat) (r0 : Option Nat) (p1 : Int32) (p2 : Int32) (p3 : Int32) (p4 : Int32) : dnMt w x b yX12_alike cX12_alike 5 (some .int) rmX12_alike eI [dnV b r0, .int p1, .int p2, .int p3, .int p4] (fX12_alike r0 p1 p2 p3 p4) := by
  have hlv : lv_args 0 [dnV b r0, .int p1, .int p2, .int p3, .int p4] = [(0, dnV b r0), (1, .int p1), (2, .int p2), (3, .int p3), (4, .int p4)] := by cases r0 <;> rfl
  refine dn_mt (by decide +kernel) roI (by cases r0 <;> exact (Nat.le_of_ble_eq_true rfl)) ?_
  rw [hlv]
  refine dn_top ?_
  show jX12_alike w x b 0 0 0 _ [] (dnB _ dnP)
  unfold fX12_alike
  refine dn_aload_n (pc := 0) r0 0 dX12_alike_0 rfl ?_
  refine dn_aload_n (pc := 1) r0 0 dX12_alike_1 rfl ?_
  refine dn_getR (pc := 2) r0 lRX12_35 dX12_alike_2 (fun v1 => ?_)
  refine dn_iload_n (pc := 5) 1 dX12_alike_5 rfl ?_
  refine dn_iload_n (pc := 6) 2 dX12_alike_6 rfl ?_
  refine dn_iload_n (pc := 7) 3 dX12_alike_7 rfl ?_
  refine dn_iload (pc := 8) 4 dX12_alike_8 rfl ?_
  refine dn_callV0I (pc := 10) [.int p1, .int p2, .int p3, .int p4] v1 kRX12_135 (mX6_countMatches w x b v1 p1 p2 p3 p4) rfl rfl (Nat.le_of_ble_eq_true rfl) ⟨(Nat.le_of_ble_eq_true rfl), (Nat.le_of_ble_eq_true rfl)⟩ ⟨rfl, rfl, (Nat.le_of_ble_eq_true rfl), (Nat.le_of_ble_eq_true rfl)⟩ dX12_alike_10 (fun v2 => ?_)
  refine dn_callV0I (pc := 13) [.int v2] r0 kRX12_91 (mX12_tally w x b r0 v2) rfl rfl (Nat.le_of_ble_eq_true rfl) ⟨(Nat.le_of_ble_eq_true rfl), (Nat.le_of_ble_eq_true rfl)⟩ ⟨rfl, rfl, (Nat.le_of_ble_eq_true rfl), (Nat.le_of_ble_eq_true rfl)⟩ dX12_alike_13 (fun v3 => ?_)
  exact dn_ret (Nat.le_of_ble_eq_true rfl) (Nat.le_of_ble_eq_true rfl) rfl dX12_alike_16
abbrev rmX12_allows : Room := { frames := 2, cells := 0, slots := 0, locals := 42 }
def fX12_allows (p0 : Int32) (p1 : Int32) : dnM Bool :=
  if 8 ≤ p0 then
  (if 16 ≤ p0 then
  (dnB (fX12_takes p1 (p0 - 16)) fun v1 =>
  dnP v1)
  else
  (dnB (fX12_isPlain p1) fun v2 =>
  if v2 = true then
  (dnB (fX12_takes p1 (p0 - 8)) fun v3 =>
  if v3 = true then
  (dnP true)
  else
  (dnP false))
  else
  (dnP false)))
  else
  (dnB (fX12_readsAs p1 p0) fun v4 =>
  dnP v4)
abbrev jX12_allows (w : dnWd) (x : dnX) (b : Nat) := dnD w x b (fun _ => True) cX12_allows RX12 2 rmX12_allows "allows" eZ
set_option maxHeartbeats 4000000 in
set_option maxRecDepth 100000 in
theorem mX12_allows (w : dnWd) (x : dnX) (b : Nat) (p0 : Int32) (p1 : Int32) : dnMt w x b yX12_allows cX12_allows 2 (some .boolean) rmX12_allows eZ [.int p0, .int p1] (fX12_allows p0 p1) := by
  have hlv : lv_args 0 [.int p0, .int p1] = [(0, .int p0), (1, .int p1)] := by rfl
  refine dn_mt (by decide +kernel) roZ (by exact (Nat.le_of_ble_eq_true rfl)) ?_
  rw [hlv]
  refine dn_top ?_
  show jX12_allows w x b 0 0 0 _ [] (dnB _ dnP)
  unfold fX12_allows
  refine dn_iload_n (pc := 0) 0 dX12_allows_0 rfl ?_
  refine dn_bipush (pc := 1) (v := 8) dX12_allows_1 rfl ?_
  refine dn_icmp_ge (pc := 3) 12 dX12_allows_3 rfl (fun _ => ?_) (fun _ => ?_)
  · refine dn_iload_n (pc := 12) 0 dX12_allows_12 rfl ?_
    refine dn_bipush (pc := 13) (v := 16) dX12_allows_13 rfl ?_
    refine dn_icmp_ge (pc := 15) 42 dX12_allows_15 rfl (fun _ => ?_) (fun _ => ?_)
    · refine dn_iload_n (pc := 42) 1 dX12_allows_42 rfl ?_
      refine dn_iload_n (pc := 43) 0 dX12_allows_43 rfl ?_
      refine dn_bipush (pc := 44) (v := 16) dX12_allows_44 rfl ?_
      refine dn_isub (pc := 46) dX12_allows_46 ?_
      refine dn_callS0Z (pc := 47) [.int p1, .int (p0 - 16)]  kRX12_305 (mX12_takes w x b p1 (p0 - 16)) rfl rfl (Nat.le_of_ble_eq_true rfl) ⟨(Nat.le_of_ble_eq_true rfl), (Nat.le_of_ble_eq_true rfl)⟩ ⟨rfl, rfl, (Nat.le_of_ble_eq_true rfl), (Nat.le_of_ble_eq_true rfl)⟩ dX12_allows_47 (fun v1 => ?_)
      exact dn_ret (Nat.le_of_ble_eq_true rfl) (Nat.le_of_ble_eq_true rfl) rfl dX12_allows_50
    · refine dn_iload_n (pc := 18) 1 dX12_allows_18 rfl ?_
      refine dn_callS0Z (pc := 19) [.int p1]  kRX12_302 (mX12_isPlain w x b p1) rfl rfl (Nat.le_of_ble_eq_true rfl) ⟨(Nat.le_of_ble_eq_true rfl), (Nat.le_of_ble_eq_true rfl)⟩ ⟨rfl, rfl, (Nat.le_of_ble_eq_true rfl), (Nat.le_of_ble_eq_true rfl)⟩ dX12_allows_19 (fun v2 => ?_)
      refine dn_ifz_eq (pc := 22) 40 dX12_allows_22 rfl (fun _ => ?_) (fun _ => ?_)
      · refine dn_iload_n (pc := 25) 1 dX12_allows_25 rfl ?_
        refine dn_iload_n (pc := 26) 0 dX12_allows_26 rfl ?_
        refine dn_bipush (pc := 27) (v := 8) dX12_allows_27 rfl ?_
        refine dn_isub (pc := 29) dX12_allows_29 ?_
        refine dn_callS0Z (pc := 30) [.int p1, .int (p0 - 8)]  kRX12_305 (mX12_takes w x b p1 (p0 - 8)) rfl rfl (Nat.le_of_ble_eq_true rfl) ⟨(Nat.le_of_ble_eq_true rfl), (Nat.le_of_ble_eq_true rfl)⟩ ⟨rfl, rfl, (Nat.le_of_ble_eq_true rfl), (Nat.le_of_ble_eq_true rfl)⟩ dX12_allows_30 (fun v3 => ?_)
        refine dn_ifz_eq (pc := 33) 40 dX12_allows_33 rfl (fun _ => ?_) (fun _ => ?_)
        · refine dn_iconst (pc := 36) (v := 1) dX12_allows_36 rfl ?_
          refine dn_goto (pc := 37) 41 dX12_allows_37 rfl ?_
          exact dn_ret (Nat.le_of_ble_eq_true rfl) (Nat.le_of_ble_eq_true rfl) rfl dX12_allows_41
        · refine dn_iconst (pc := 40) (v := 0) dX12_allows_40 rfl ?_
          exact dn_ret (Nat.le_of_ble_eq_true rfl) (Nat.le_of_ble_eq_true rfl) rfl dX12_allows_41
      · refine dn_iconst (pc := 40) (v := 0) dX12_allows_40 rfl ?_
        exact dn_ret (Nat.le_of_ble_eq_true rfl) (Nat.le_of_ble_eq_true rfl) rfl dX12_allows_41
  · refine dn_iload_n (pc := 6) 1 dX12_allows_6 rfl ?_
    refine dn_iload_n (pc := 7) 0 dX12_allows_7 rfl ?_
    refine dn_callS0Z (pc := 8) [.int p1, .int p0]  kRX12_308 (mX12_readsAs w x b p1 p0) rfl rfl (Nat.le_of_ble_eq_true rfl) ⟨(Nat.le_of_ble_eq_true rfl), (Nat.le_of_ble_eq_true rfl)⟩ ⟨rfl, rfl, (Nat.le_of_ble_eq_true rfl), (Nat.le_of_ble_eq_true rfl)⟩ dX12_allows_8 (fun v4 => ?_)
    exact dn_ret (Nat.le_of_ble_eq_true rfl) (Nat.le_of_ble_eq_true rfl) rfl dX12_allows_11
abbrev rmX12_isImage : Room := { frames := 0, cells := 0, slots := 0, locals := 0 }
def fX12_isImage (p0 : Int32) : dnM Bool :=
  if p0 < 0 then
  (dnP false)
  else
  (if 2 ≤ p0 then
  (dnP false)
  else
  (dnP true))
abbrev jX12_isImage (w : dnWd) (x : dnX) (b : Nat) := dnD w x b (fun _ => True) cX12_isImage RX12 1 rmX12_isImage "isImage" eZ
set_option maxHeartbeats 4000000 in
set_option maxRecDepth 100000 in
theorem mX12_isImage (w : dnWd) (x : dnX) (b : Nat) (p0 : Int32) : dnMt w x b yX12_isImage cX12_isImage 1 (some .boolean) rmX12_isImage eZ [.int p0] (fX12_isImage p0) := by
  have hlv : lv_args 0 [.int p0] = [(0, .int p0)] := by rfl
  refine dn_mt (by decide +kernel) roZ (by exact (Nat.le_of_ble_eq_true rfl)) ?_
  rw [hlv]
  refine dn_top ?_
  show jX12_isImage w x b 0 0 0 _ [] (dnB _ dnP)
  unfold fX12_isImage
  refine dn_iload_n (pc := 0) 0 dX12_isImage_0 rfl ?_
  refine dn_if_lt (pc := 1) 13 dX12_isImage_1 rfl (fun _ => ?_) (fun _ => ?_)
  · refine dn_iconst (pc := 13) (v := 0) dX12_isImage_13 rfl ?_
    exact dn_ret (Nat.le_of_ble_eq_true rfl) (Nat.le_of_ble_eq_true rfl) rfl dX12_isImage_14
  · refine dn_iload_n (pc := 4) 0 dX12_isImage_4 rfl ?_
    refine dn_iconst (pc := 5) (v := 2) dX12_isImage_5 rfl ?_
    refine dn_icmp_ge (pc := 6) 13 dX12_isImage_6 rfl (fun _ => ?_) (fun _ => ?_)
    · refine dn_iconst (pc := 13) (v := 0) dX12_isImage_13 rfl ?_
      exact dn_ret (Nat.le_of_ble_eq_true rfl) (Nat.le_of_ble_eq_true rfl) rfl dX12_isImage_14
    · refine dn_iconst (pc := 9) (v := 1) dX12_isImage_9 rfl ?_
      refine dn_goto (pc := 10) 14 dX12_isImage_10 rfl ?_
      exact dn_ret (Nat.le_of_ble_eq_true rfl) (Nat.le_of_ble_eq_true rfl) rfl dX12_isImage_14
abbrev rmX5_copyFrom : Room := { frames := 1, cells := 0, slots := 0, locals := 60 }
def fX5_copyFrom (r0 : Option Nat) (r1 : Option Nat) : dnM Unit :=
  dnB (dnGI r1 4 1) fun v1 =>
  dnB (dnPI r0 4 1 v1) fun _ =>
  dnB (dnGI r1 4 2) fun v2 =>
  dnB (dnPI r0 4 2 v2) fun _ =>
  dnB (dnGR r1 4 3) fun v3 =>
  dnB (dnGR r0 4 3) fun v4 =>
  dnB (dnCI v3 v4 0 0 12) fun _ =>
  dnB (dnGR r1 4 4) fun v5 =>
  dnB (dnGR r0 4 4) fun v6 =>
  dnB (dnCL v5 v6 0 0 12) fun _ =>
  dnB (dnGR r1 4 5) fun v7 =>
  dnB (dnGR r0 4 5) fun v8 =>
  dnB (dnCD v7 v8 0 0 12) fun _ =>
  dnP ()
abbrev jX5_copyFrom (w : dnWd) (x : dnX) (b : Nat) := dnD w x b (fun _ => True) cX5_copyFrom RX5 2 rmX5_copyFrom "copyFrom" eU
set_option maxHeartbeats 4000000 in
set_option maxRecDepth 100000 in
theorem mX5_copyFrom (w : dnWd) (x : dnX) (b : Nat) (r0 : Option Nat) (r1 : Option Nat) : dnMt w x b yX5_copyFrom cX5_copyFrom 2 none rmX5_copyFrom eU [dnV b r0, dnV b r1] (fX5_copyFrom r0 r1) := by
  have hlv : lv_args 0 [dnV b r0, dnV b r1] = [(0, dnV b r0), (1, dnV b r1)] := by cases r0 <;> cases r1 <;> rfl
  refine dn_mt (by decide +kernel) roU (by cases r0 <;> cases r1 <;> exact (Nat.le_of_ble_eq_true rfl)) ?_
  rw [hlv]
  refine dn_top ?_
  show jX5_copyFrom w x b 0 0 0 _ [] (dnB _ dnP)
  unfold fX5_copyFrom
  refine dn_aload_n (pc := 0) r0 0 dX5_copyFrom_0 rfl ?_
  refine dn_aload_n (pc := 1) r1 1 dX5_copyFrom_1 rfl ?_
  refine dn_getI (pc := 2) r1 lRX5_9 dX5_copyFrom_2 (fun v1 => ?_)
  refine dn_putI (pc := 5) r0 lRX5_9 dX5_copyFrom_5 ?_
  refine dn_aload_n (pc := 8) r0 0 dX5_copyFrom_8 rfl ?_
  refine dn_aload_n (pc := 9) r1 1 dX5_copyFrom_9 rfl ?_
  refine dn_getI (pc := 10) r1 lRX5_15 dX5_copyFrom_10 (fun v2 => ?_)
  refine dn_putI (pc := 13) r0 lRX5_15 dX5_copyFrom_13 ?_
  refine dn_aload_n (pc := 16) r1 1 dX5_copyFrom_16 rfl ?_
  refine dn_getR (pc := 17) r1 lRX5_18 dX5_copyFrom_17 (fun v3 => ?_)
  refine dn_iconst (pc := 20) (v := 0) dX5_copyFrom_20 rfl ?_
  refine dn_aload_n (pc := 21) r0 0 dX5_copyFrom_21 rfl ?_
  refine dn_getR (pc := 22) r0 lRX5_18 dX5_copyFrom_22 (fun v4 => ?_)
  refine dn_iconst (pc := 25) (v := 0) dX5_copyFrom_25 rfl ?_
  refine dn_bipush (pc := 26) (v := 12) dX5_copyFrom_26 rfl ?_
  refine dn_copyI (pc := 28) v3 v4 kRX5_45 kc_1 kc_2 kc_3 ⟨(Nat.le_of_ble_eq_true rfl), (Nat.le_of_ble_eq_true rfl)⟩ (Nat.le_of_ble_eq_true rfl) dX5_copyFrom_28 ?_
  refine dn_aload_n (pc := 31) r1 1 dX5_copyFrom_31 rfl ?_
  refine dn_getR (pc := 32) r1 lRX5_22 dX5_copyFrom_32 (fun v5 => ?_)
  refine dn_iconst (pc := 35) (v := 0) dX5_copyFrom_35 rfl ?_
  refine dn_aload_n (pc := 36) r0 0 dX5_copyFrom_36 rfl ?_
  refine dn_getR (pc := 37) r0 lRX5_22 dX5_copyFrom_37 (fun v6 => ?_)
  refine dn_iconst (pc := 40) (v := 0) dX5_copyFrom_40 rfl ?_
  refine dn_bipush (pc := 41) (v := 12) dX5_copyFrom_41 rfl ?_
  refine dn_copyL (pc := 43) v5 v6 kRX5_45 kc_1 kc_2 kc_3 ⟨(Nat.le_of_ble_eq_true rfl), (Nat.le_of_ble_eq_true rfl)⟩ (Nat.le_of_ble_eq_true rfl) dX5_copyFrom_43 ?_
  refine dn_aload_n (pc := 46) r1 1 dX5_copyFrom_46 rfl ?_
  refine dn_getR (pc := 47) r1 lRX5_26 dX5_copyFrom_47 (fun v7 => ?_)
  refine dn_iconst (pc := 50) (v := 0) dX5_copyFrom_50 rfl ?_
  refine dn_aload_n (pc := 51) r0 0 dX5_copyFrom_51 rfl ?_
  refine dn_getR (pc := 52) r0 lRX5_26 dX5_copyFrom_52 (fun v8 => ?_)
  refine dn_iconst (pc := 55) (v := 0) dX5_copyFrom_55 rfl ?_
  refine dn_bipush (pc := 56) (v := 12) dX5_copyFrom_56 rfl ?_
  refine dn_copyD (pc := 58) v7 v8 kRX5_45 kc_1 kc_2 kc_3 ⟨(Nat.le_of_ble_eq_true rfl), (Nat.le_of_ble_eq_true rfl)⟩ (Nat.le_of_ble_eq_true rfl) dX5_copyFrom_58 ?_
  exact dn_ret (Nat.le_of_ble_eq_true rfl) (Nat.le_of_ble_eq_true rfl) rfl dX5_copyFrom_61
abbrev rmX9_copyFrom : Room := { frames := 2, cells := 0, slots := 0, locals := 81 }
def fX9_copyFrom_b38 (c0 : Option Nat) (c1 : Option Nat) (s38 : Int32) : dnM ((Int32) ⊕ (Unit)) :=
  if 31 ≤ s38 then
  (dnP (.inr ()))
  else
  (dnB (dnGR c0 7 2) fun v9 =>
  dnB (dnAR v9 104 s38) fun v10 =>
  dnB (dnGR c1 7 2) fun v11 =>
  dnB (dnAR v11 104 s38) fun v12 =>
  dnB (dnCv v10 4 (fX5_copyFrom v10 v12)) fun _ =>
  dnP (.inl (s38 + 1)))
def fX9_copyFrom (r0 : Option Nat) (r1 : Option Nat) : dnM Unit :=
  dnB (dnGR r1 7 0) fun v1 =>
  dnB (dnGR r0 7 0) fun v2 =>
  dnB (dnGR r0 7 0) fun v3 =>
  dnB (dnLn v3 100) fun v4 =>
  dnB (dnCI v1 v2 0 0 v4) fun _ =>
  dnB (dnGR r1 7 1) fun v5 =>
  dnB (dnGR r0 7 1) fun v6 =>
  dnB (dnGR r0 7 1) fun v7 =>
  dnB (dnLn v7 100) fun v8 =>
  dnB (dnCI v5 v6 0 0 v8) fun _ =>
  dnB (dnIt 1000 (fX9_copyFrom_b38 r0 r1) 0) fun q38 =>
  dnP ()
abbrev jX9_copyFrom (w : dnWd) (x : dnX) (b : Nat) := dnD w x b (fun _ => True) cX9_copyFrom RX9 3 rmX9_copyFrom "copyFrom" eU
set_option maxHeartbeats 4000000 in
set_option maxRecDepth 100000 in
theorem mX9_copyFrom (w : dnWd) (x : dnX) (b : Nat) (r0 : Option Nat) (r1 : Option Nat) : dnMt w x b yX9_copyFrom cX9_copyFrom 3 none rmX9_copyFrom eU [dnV b r0, dnV b r1] (fX9_copyFrom r0 r1) := by
  have hlv : lv_args 0 [dnV b r0, dnV b r1] = [(0, dnV b r0), (1, dnV b r1)] := by cases r0 <;> cases r1 <;> rfl
  refine dn_mt (by decide +kernel) roU (by cases r0 <;> cases r1 <;> exact (Nat.le_of_ble_eq_true rfl)) ?_
  rw [hlv]
  refine dn_top ?_
  show jX9_copyFrom w x b 0 0 0 _ [] (dnB _ dnP)
  unfold fX9_copyFrom
  refine dn_aload_n (pc := 0) r1 1 dX9_copyFrom_0 rfl ?_
  refine dn_getR (pc := 1) r1 lRX9_9 dX9_copyFrom_1 (fun v1 => ?_)
  refine dn_iconst (pc := 4) (v := 0) dX9_copyFrom_4 rfl ?_
  refine dn_aload_n (pc := 5) r0 0 dX9_copyFrom_5 rfl ?_
  refine dn_getR (pc := 6) r0 lRX9_9 dX9_copyFrom_6 (fun v2 => ?_)
  refine dn_iconst (pc := 9) (v := 0) dX9_copyFrom_9 rfl ?_
  refine dn_aload_n (pc := 10) r0 0 dX9_copyFrom_10 rfl ?_
  refine dn_getR (pc := 11) r0 lRX9_9 dX9_copyFrom_11 (fun v3 => ?_)
  refine dn_alen (pc := 14) 0 v3 (by decide) (fun _ => rfl) dX9_copyFrom_14 (fun v4 => ?_)
  refine dn_copyI (pc := 15) v1 v2 kRX9_33 kc_1 kc_2 kc_3 ⟨(Nat.le_of_ble_eq_true rfl), (Nat.le_of_ble_eq_true rfl)⟩ (Nat.le_of_ble_eq_true rfl) dX9_copyFrom_15 ?_
  refine dn_aload_n (pc := 18) r1 1 dX9_copyFrom_18 rfl ?_
  refine dn_getR (pc := 19) r1 lRX9_15 dX9_copyFrom_19 (fun v5 => ?_)
  refine dn_iconst (pc := 22) (v := 0) dX9_copyFrom_22 rfl ?_
  refine dn_aload_n (pc := 23) r0 0 dX9_copyFrom_23 rfl ?_
  refine dn_getR (pc := 24) r0 lRX9_15 dX9_copyFrom_24 (fun v6 => ?_)
  refine dn_iconst (pc := 27) (v := 0) dX9_copyFrom_27 rfl ?_
  refine dn_aload_n (pc := 28) r0 0 dX9_copyFrom_28 rfl ?_
  refine dn_getR (pc := 29) r0 lRX9_15 dX9_copyFrom_29 (fun v7 => ?_)
  refine dn_alen (pc := 32) 0 v7 (by decide) (fun _ => rfl) dX9_copyFrom_32 (fun v8 => ?_)
  refine dn_copyI (pc := 33) v5 v6 kRX9_33 kc_1 kc_2 kc_3 ⟨(Nat.le_of_ble_eq_true rfl), (Nat.le_of_ble_eq_true rfl)⟩ (Nat.le_of_ble_eq_true rfl) dX9_copyFrom_33 ?_
  refine dn_iconst (pc := 36) (v := 0) dX9_copyFrom_36 rfl ?_
  refine dn_istore_n (pc := 37) dX9_copyFrom_37 (Nat.le_of_ble_eq_true rfl) (dnKp_nb 1 rfl (dn_cat b _) rfl (dnKp_of (lv2 := [(0, dnV b r0)]) [0] rfl rfl)) ?_
  refine dn_assoc ?_
  refine dn_lv [2, 1, 0] (lv2 := (fun s => [(0, dnV b r0), (1, dnV b r1), (2, .int s)]) 0) rfl ?_
  refine dn_loopE (pc := 38) (body := fX9_copyFrom_b38 r0 r1) 65 (fun s => [(0, dnV b r0), (1, dnV b r1), (2, .int s)]) (fun q => []) (fun s38 K38 E38 hK38 hE38 => ?_) (fun q38 => ?_) 1000 0
  · unfold fX9_copyFrom_b38
    refine dn_iload_n (pc := 38) 2 dX9_copyFrom_38 rfl ?_
    refine dn_bipush (pc := 39) (v := 31) dX9_copyFrom_39 rfl ?_
    refine dn_icmp_ge (pc := 41) 65 dX9_copyFrom_41 rfl (fun _ => ?_) (fun _ => ?_)
    · refine dn_leaf ?_
      exact dn_lv [] rfl (hE38 ())
    · refine dn_aload_n (pc := 44) r0 0 dX9_copyFrom_44 rfl ?_
      refine dn_getR (pc := 45) r0 lRX9_20 dX9_copyFrom_45 (fun v9 => ?_)
      refine dn_iload_n (pc := 48) 2 dX9_copyFrom_48 rfl ?_
      refine dn_aaldW (pc := 49) v9 dX9_copyFrom_49 (fun v10 => ?_)
      refine dn_aload_n (pc := 50) r1 1 dX9_copyFrom_50 rfl ?_
      refine dn_getR (pc := 51) r1 lRX9_20 dX9_copyFrom_51 (fun v11 => ?_)
      refine dn_iload_n (pc := 54) 2 dX9_copyFrom_54 rfl ?_
      refine dn_aaldW (pc := 55) v11 dX9_copyFrom_55 (fun v12 => ?_)
      refine dn_callV0U (pc := 56) [dnV b v12] v10 kRX9_39 (mX5_copyFrom w x b v10 v12) rfl rfl (Nat.le_of_ble_eq_true rfl) ⟨(Nat.le_of_ble_eq_true rfl), (Nat.le_of_ble_eq_true rfl)⟩ ⟨rfl, rfl, (Nat.le_of_ble_eq_true rfl), (Nat.le_of_ble_eq_true rfl)⟩ dX9_copyFrom_56 (fun _ => ?_)
      refine dn_iinc (pc := 59) (s38 + 1) 2 dX9_copyFrom_59 rfl rfl (Nat.le_of_ble_eq_true rfl) (dnKp_nb 1 rfl (dn_cat b _) rfl (dnKp_of (lv2 := [(0, dnV b r0)]) [0] rfl rfl)) ?_
      refine dn_goto (pc := 62) 38 dX9_copyFrom_62 rfl ?_
      refine dn_leaf ?_
      exact dn_lv [2, 1, 0] rfl (hK38 (s38 + 1))
  · exact dn_ret (Nat.le_of_ble_eq_true rfl) (Nat.le_of_ble_eq_true rfl) rfl dX9_copyFrom_65
abbrev rmX9_presentGrids : Room := { frames := 0, cells := 0, slots := 0, locals := 0 }
def fX9_presentGrids_j24 (l0 : Option Nat) (l2 : Int32) (s0 : Int32) (s1 : Bool) : dnM ((Int32 × Int32) ⊕ (Int32)) :=
  dnP (.inl ((s0 + (dnZ s1)), (l2 + 1)))
def fX9_presentGrids_b4 (c0 : Option Nat) (s4 : Int32 × Int32) : dnM ((Int32 × Int32) ⊕ (Int32)) :=
  if 4 ≤ s4.2 then
  (dnP (.inr s4.1))
  else
  (dnB (dnGR c0 7 0) fun v1 =>
  dnB (dnAI v1 100 s4.2) fun v2 =>
  if 0 ≤ v2 then
  (fX9_presentGrids_j24 c0 s4.2 s4.1 true)
  else
  (fX9_presentGrids_j24 c0 s4.2 s4.1 false))
def fX9_presentGrids (r0 : Option Nat) : dnM Int32 :=
  dnB (dnIt 1000 (fX9_presentGrids_b4 r0) (0, 0)) fun q4 =>
  dnP q4
abbrev jX9_presentGrids (w : dnWd) (x : dnX) (b : Nat) := dnD w x b (fun _ => True) cX9_presentGrids RX9 3 rmX9_presentGrids "presentGrids" eI
set_option maxHeartbeats 4000000 in
set_option maxRecDepth 100000 in
theorem mX9_presentGrids (w : dnWd) (x : dnX) (b : Nat) (r0 : Option Nat) : dnMt w x b yX9_presentGrids cX9_presentGrids 3 (some .int) rmX9_presentGrids eI [dnV b r0] (fX9_presentGrids r0) := by
  have hlv : lv_args 0 [dnV b r0] = [(0, dnV b r0)] := by cases r0 <;> rfl
  refine dn_mt (by decide +kernel) roI (by cases r0 <;> exact (Nat.le_of_ble_eq_true rfl)) ?_
  rw [hlv]
  refine dn_top ?_
  show jX9_presentGrids w x b 0 0 0 _ [] (dnB _ dnP)
  unfold fX9_presentGrids
  refine dn_iconst (pc := 0) (v := 0) dX9_presentGrids_0 rfl ?_
  refine dn_istore_n (pc := 1) dX9_presentGrids_1 (Nat.le_of_ble_eq_true rfl) (dnKp_nb 0 rfl (dn_cat b _) rfl (dnKp_of (lv2 := []) [] rfl rfl)) ?_
  refine dn_iconst (pc := 2) (v := 0) dX9_presentGrids_2 rfl ?_
  refine dn_istore_n (pc := 3) dX9_presentGrids_3 (Nat.le_of_ble_eq_true rfl) (dnKp_nb 0 rfl rfl rfl (dnKp_of (lv2 := [(0, dnV b r0)]) [1] rfl rfl)) ?_
  refine dn_assoc ?_
  refine dn_lv [2, 1, 0] (lv2 := (fun s => [(0, dnV b r0), (1, .int s.1), (2, .int s.2)]) (0, 0)) rfl ?_
  refine dn_loopE (pc := 4) (body := fX9_presentGrids_b4 r0) 32 (fun s => [(0, dnV b r0), (1, .int s.1), (2, .int s.2)]) (fun q => [(1, .int q)]) (fun s4 K4 E4 hK4 hE4 => ?_) (fun q4 => ?_) 1000 (0, 0)
  · unfold fX9_presentGrids_b4
    have hj24 : ∀ (l2 : Int32) (s0 : Int32) (s1 : Bool), jX9_presentGrids w x b 24 0 0 [(0, dnV b r0), (2, .int l2)] [.int (dnZ s1), .int s0] (dnB (fX9_presentGrids_j24 r0 l2 s0 s1) (dnKo K4 E4)) := by
      intro l2 s0 s1
      unfold fX9_presentGrids_j24
      refine dn_iadd (pc := 24) dX9_presentGrids_24 ?_
      refine dn_istore_n (pc := 25) dX9_presentGrids_25 (Nat.le_of_ble_eq_true rfl) (dnKp_nb 0 rfl (dn_cat b _) rfl (dnKp_of (lv2 := [(2, .int l2)]) [1] rfl rfl)) ?_
      refine dn_iinc (pc := 26) (l2 + 1) 2 dX9_presentGrids_26 rfl rfl (Nat.le_of_ble_eq_true rfl) (dnKp_nb 0 rfl rfl rfl (dnKp_of (lv2 := [(0, dnV b r0)]) [1] rfl rfl)) ?_
      refine dn_goto (pc := 29) 4 dX9_presentGrids_29 rfl ?_
      refine dn_leaf ?_
      exact dn_lv [2, 1, 0] rfl (hK4 ((s0 + (dnZ s1)), (l2 + 1)))
    refine dn_iload_n (pc := 4) 2 dX9_presentGrids_4 rfl ?_
    refine dn_iconst (pc := 5) (v := 4) dX9_presentGrids_5 rfl ?_
    refine dn_icmp_ge (pc := 6) 32 dX9_presentGrids_6 rfl (fun _ => ?_) (fun _ => ?_)
    · refine dn_leaf ?_
      exact dn_lv [1] rfl (hE4 s4.1)
    · refine dn_iload_n (pc := 9) 1 dX9_presentGrids_9 rfl ?_
      refine dn_aload_n (pc := 10) r0 0 dX9_presentGrids_10 rfl ?_
      refine dn_getR (pc := 11) r0 lRX9_9 dX9_presentGrids_11 (fun v1 => ?_)
      refine dn_iload_n (pc := 14) 2 dX9_presentGrids_14 rfl ?_
      refine dn_iald (pc := 15) v1 dX9_presentGrids_15 (fun v2 => ?_)
      refine dn_if_ge (pc := 16) 23 dX9_presentGrids_16 rfl (fun _ => ?_) (fun _ => ?_)
      · refine dn_iconst (pc := 23) (v := 1) dX9_presentGrids_23 rfl ?_
        exact dn_lv [0, 2] rfl (hj24 s4.2 s4.1 true)
      · refine dn_iconst (pc := 19) (v := 0) dX9_presentGrids_19 rfl ?_
        refine dn_goto (pc := 20) 24 dX9_presentGrids_20 rfl ?_
        exact dn_lv [0, 2] rfl (hj24 s4.2 s4.1 false)
  · refine dn_iload_n (pc := 32) 0 dX9_presentGrids_32 rfl ?_
    exact dn_ret (Nat.le_of_ble_eq_true rfl) (Nat.le_of_ble_eq_true rfl) rfl dX9_presentGrids_33
abbrev rmX12_back : Room := { frames := 3, cells := 0, slots := 0, locals := 103 }
def fX12_back (r0 : Option Nat) (p1 : Int32) : dnM Int32 :=
  dnB (fX12_isImage p1) fun v1 =>
  if v1 = true then
  (dnB (dnGR r0 10 2) fun v2 =>
  dnB (dnAR v2 105 p1) fun v3 =>
  v3.elim
  (dnB (dnCv r0 10 (fX12_tally r0 (-2))) fun v5 =>
  dnP v5)
  (fun v4 => dnB (dnGR r0 10 0) fun v6 =>
  dnB (dnGR r0 10 2) fun v7 =>
  dnB (dnAR v7 105 p1) fun v8 =>
  dnB (dnCv v6 7 (fX9_copyFrom v6 v8)) fun _ =>
  dnB (dnGR r0 10 0) fun v10 =>
  dnB (dnCv v10 7 (fX9_presentGrids v10)) fun v11 =>
  dnP v11))
  else
  (dnB (dnCv r0 10 (fX12_tally r0 (-1))) fun v12 =>
  dnP v12)
abbrev jX12_back (w : dnWd) (x : dnX) (b : Nat) := dnD w x b (fun _ => True) cX12_back RX12 2 rmX12_back "back" eI
set_option maxHeartbeats 4000000 in
set_option maxRecDepth 100000 in
theorem mX12_back (w : dnWd) (x : dnX) (b : Nat) (r0 : Option Nat) (p1 : Int32) : dnMt w x b yX12_back cX12_back 2 (some .int) rmX12_back eI [dnV b r0, .int p1] (fX12_back r0 p1) := by
  have hlv : lv_args 0 [dnV b r0, .int p1] = [(0, dnV b r0), (1, .int p1)] := by cases r0 <;> rfl
  refine dn_mt (by decide +kernel) roI (by cases r0 <;> exact (Nat.le_of_ble_eq_true rfl)) ?_
  rw [hlv]
  refine dn_top ?_
  show jX12_back w x b 0 0 0 _ [] (dnB _ dnP)
  unfold fX12_back
  refine dn_iload_n (pc := 0) 1 dX12_back_0 rfl ?_
  refine dn_callS0Z (pc := 1) [.int p1]  kRX12_253 (mX12_isImage w x b p1) rfl rfl (Nat.le_of_ble_eq_true rfl) ⟨(Nat.le_of_ble_eq_true rfl), (Nat.le_of_ble_eq_true rfl)⟩ ⟨rfl, rfl, (Nat.le_of_ble_eq_true rfl), (Nat.le_of_ble_eq_true rfl)⟩ dX12_back_1 (fun v1 => ?_)
  refine dn_ifz_ne (pc := 4) 13 dX12_back_4 rfl (fun _ => ?_) (fun _ => ?_)
  · refine dn_aload_n (pc := 13) r0 0 dX12_back_13 rfl ?_
    refine dn_getR (pc := 14) r0 lRX12_19 dX12_back_14 (fun v2 => ?_)
    refine dn_iload_n (pc := 17) 1 dX12_back_17 rfl ?_
    refine dn_aaldS (pc := 18) v2 dX12_back_18 (fun v3 => ?_)
    refine dn_ifnonnull (pc := 19) v3 29 dX12_back_19 rfl (fun e_ => ?_) (fun v4 e_ => ?_)
    · subst e_
      refine dn_aload_n (pc := 22) r0 0 dX12_back_22 rfl ?_
      refine dn_bipush (pc := 23) (v := -2) dX12_back_23 rfl ?_
      refine dn_callV0I (pc := 25) [.int (-2)] r0 kRX12_91 (mX12_tally w x b r0 (-2)) rfl rfl (Nat.le_of_ble_eq_true rfl) ⟨(Nat.le_of_ble_eq_true rfl), (Nat.le_of_ble_eq_true rfl)⟩ ⟨rfl, rfl, (Nat.le_of_ble_eq_true rfl), (Nat.le_of_ble_eq_true rfl)⟩ dX12_back_25 (fun v5 => ?_)
      exact dn_ret (Nat.le_of_ble_eq_true rfl) (Nat.le_of_ble_eq_true rfl) rfl dX12_back_28
    · subst e_
      refine dn_aload_n (pc := 29) r0 0 dX12_back_29 rfl ?_
      refine dn_getR (pc := 30) r0 lRX12_10 dX12_back_30 (fun v6 => ?_)
      refine dn_aload_n (pc := 33) r0 0 dX12_back_33 rfl ?_
      refine dn_getR (pc := 34) r0 lRX12_19 dX12_back_34 (fun v7 => ?_)
      refine dn_iload_n (pc := 37) 1 dX12_back_37 rfl ?_
      refine dn_aaldS (pc := 38) v7 dX12_back_38 (fun v8 => ?_)
      refine dn_callV0U (pc := 39) [dnV b v8] v6 kRX12_216 (mX9_copyFrom w x b v6 v8) rfl rfl (Nat.le_of_ble_eq_true rfl) ⟨(Nat.le_of_ble_eq_true rfl), (Nat.le_of_ble_eq_true rfl)⟩ ⟨rfl, rfl, (Nat.le_of_ble_eq_true rfl), (Nat.le_of_ble_eq_true rfl)⟩ dX12_back_39 (fun _ => ?_)
      refine dn_aload_n (pc := 42) r0 0 dX12_back_42 rfl ?_
      refine dn_getR (pc := 43) r0 lRX12_10 dX12_back_43 (fun v10 => ?_)
      refine dn_callV0I (pc := 46) [] v10 kRX12_256 (mX9_presentGrids w x b v10) rfl rfl (Nat.le_of_ble_eq_true rfl) ⟨(Nat.le_of_ble_eq_true rfl), (Nat.le_of_ble_eq_true rfl)⟩ ⟨rfl, rfl, (Nat.le_of_ble_eq_true rfl), (Nat.le_of_ble_eq_true rfl)⟩ dX12_back_46 (fun v11 => ?_)
      exact dn_ret (Nat.le_of_ble_eq_true rfl) (Nat.le_of_ble_eq_true rfl) rfl dX12_back_49
  · refine dn_aload_n (pc := 7) r0 0 dX12_back_7 rfl ?_
    refine dn_iconst (pc := 8) (v := -1) dX12_back_8 rfl ?_
    refine dn_callV0I (pc := 9) [.int (-1)] r0 kRX12_91 (mX12_tally w x b r0 (-1)) rfl rfl (Nat.le_of_ble_eq_true rfl) ⟨(Nat.le_of_ble_eq_true rfl), (Nat.le_of_ble_eq_true rfl)⟩ ⟨rfl, rfl, (Nat.le_of_ble_eq_true rfl), (Nat.le_of_ble_eq_true rfl)⟩ dX12_back_9 (fun v12 => ?_)
    exact dn_ret (Nat.le_of_ble_eq_true rfl) (Nat.le_of_ble_eq_true rfl) rfl dX12_back_12
