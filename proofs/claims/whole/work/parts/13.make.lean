/-! CORE 8: a loop that makes cells; its states keep to I, and each says what is made so far -/
section DN
variable {w : dnWd} {x : dnX} {b : Nat} {G : State → Prop} {cc : ByteArray} {own : String} {nL : Nat} {rm : Room} {nm : String} {α β γ : Type} {em : α → Option Value} {pc cells slots : Nat} {lv : List (Nat × Value)} {st : List Value} {F : dnM α}
theorem dn_loopI {σ ρ : Type} {body : σ → dnM (σ ⊕ ρ)} {g : ρ → dnM α} (I : σ → Prop) (cs ss : σ → Nat) (pcE cE sE : Nat) (LV : σ → List (Nat × Value)) (LE : ρ → List (Nat × Value))
    (hb : ∀ s : σ, I s → ∀ (K : σ → dnM α) (E : ρ → dnM α), (∀ s1 : σ, I s1 → dnD w x b G cc own nL rm nm em pc (cs s1) (ss s1) (LV s1) st (K s1)) → (∀ q : ρ, dnD w x b G cc own nL rm nm em pcE cE sE (LE q) st (E q)) → dnD w x b G cc own nL rm nm em pc (cs s) (ss s) (LV s) st (dnB (body s) (dnKo K E)))
    (he : ∀ q : ρ, dnD w x b G cc own nL rm nm em pcE cE sE (LE q) st (g q)) : ∀ (n : Nat) (s : σ), I s → dnD w x b G cc own nL rm nm em pc (cs s) (ss s) (LV s) st (dnB (dnIt n body s) g) := by
  intro n
  induction n with
  | zero =>
    intro s _ p l e s2 m args below meth c Q h a h1 H locs ls hC hF
    cases hF
  | succ n ih =>
    intro s hs
    refine dn_eqF ?_ (hb s hs (fun s1 => dnB (dnIt n body s1) g) g ih he)
    show dnB (dnB (body s) _) g = _
    rw [dnB_assoc]
    congr 1
    funext r
    cases r <;> rfl
end DN

abbrev rmX9_init : Room := { frames := 2, cells := 127, slots := 1368, locals := 41 }
def fX9_init_b47 (c0 : Option Nat) (s47 : Int32) : dnM ((Int32) ⊕ (Unit)) :=
  if 31 ≤ s47 then
  (dnP (.inr ()))
  else
  (dnB (dnGR c0 7 2) fun v8 =>
  dnB (dnNo 4) fun v9 =>
  dnB (dnCv v9 4 (fX5_init v9 s47)) fun _ =>
  dnB (dnTR v8 104 4 s47 v9) fun _ =>
  dnP (.inl (s47 + 1)))
def fX9_init (r0 : Option Nat) : dnM Unit :=
  dnB (dnCk r0 7) fun _ =>
  dnB (dnNa 100 5) fun v1 =>
  dnB (dnPR r0 7 0 v1) fun _ =>
  dnB (dnNa 100 30) fun v2 =>
  dnB (dnPR r0 7 1 v2) fun _ =>
  dnB (dnNa 104 31) fun v3 =>
  dnB (dnPR r0 7 2 v3) fun _ =>
  dnB (dnGR r0 7 0) fun v4 =>
  dnB (fJ7_fill_53178 v4 (-1)) fun _ =>
  dnB (dnGR r0 7 1) fun v6 =>
  dnB (fJ7_fill_53178 v6 (-14)) fun _ =>
  dnB (dnIt 1000 (fX9_init_b47 r0) 0) fun q47 =>
  dnP ()
abbrev jX9_init (w : dnWd) (x : dnX) (b : Nat) := dnD w x b (fun _ => True) cX9_init RX9 2 rmX9_init "<init>" eU
set_option maxHeartbeats 4000000 in
set_option maxRecDepth 100000 in
theorem mX9_init (w : dnWd) (x : dnX) (b : Nat) (r0 : Option Nat) : dnMt w x b yX9_init cX9_init 2 none rmX9_init eU [dnV b r0] (fX9_init r0) := by
  have hlv : lv_args 0 [dnV b r0] = [(0, dnV b r0)] := by cases r0 <;> rfl
  refine dn_mt (by decide +kernel) roU (by cases r0 <;> exact (Nat.le_of_ble_eq_true rfl)) ?_
  rw [hlv]
  refine dn_top ?_
  show jX9_init w x b 0 0 0 _ [] (dnB _ dnP)
  unfold fX9_init
  refine dn_aload_n (pc := 0) r0 0 dX9_init_0 rfl ?_
  refine dn_objInitC (pc := 1) r0 kRX9_3 ko_1 ko_2 dX9_init_1 ⟨(Nat.le_of_ble_eq_true rfl), (Nat.le_of_ble_eq_true rfl)⟩ (Nat.le_of_ble_eq_true rfl) ?_
  refine dn_aload_n (pc := 4) r0 0 dX9_init_4 rfl ?_
  refine dn_iconst (pc := 5) (v := 5) dX9_init_5 rfl ?_
  refine dn_newaI (pc := 6) 5 rfl ka_int (Nat.le_of_ble_eq_true rfl) ⟨(Nat.le_of_ble_eq_true rfl), (Nat.le_of_ble_eq_true rfl)⟩ dX9_init_6 (fun v1 => ?_)
  refine dn_putRF (pc := 8) r0 lRX9_9 rfl rfl dX9_init_8 ?_
  refine dn_aload_n (pc := 11) r0 0 dX9_init_11 rfl ?_
  refine dn_bipush (pc := 12) (v := 30) dX9_init_12 rfl ?_
  refine dn_newaI (pc := 14) 30 rfl ka_int (Nat.le_of_ble_eq_true rfl) ⟨(Nat.le_of_ble_eq_true rfl), (Nat.le_of_ble_eq_true rfl)⟩ dX9_init_14 (fun v2 => ?_)
  refine dn_putRF (pc := 16) r0 lRX9_15 rfl rfl dX9_init_16 ?_
  refine dn_aload_n (pc := 19) r0 0 dX9_init_19 rfl ?_
  refine dn_bipush (pc := 20) (v := 31) dX9_init_20 rfl ?_
  refine dn_newaW (pc := 22) 31 rfl kRX9_18 (Nat.le_of_ble_eq_true rfl) ⟨(Nat.le_of_ble_eq_true rfl), (Nat.le_of_ble_eq_true rfl)⟩ dX9_init_22 (fun v3 => ?_)
  refine dn_putRF (pc := 25) r0 lRX9_20 rfl rfl dX9_init_25 ?_
  refine dn_aload_n (pc := 28) r0 0 dX9_init_28 rfl ?_
  refine dn_getR (pc := 29) r0 lRX9_9 dX9_init_29 (fun v4 => ?_)
  refine dn_iconst (pc := 32) (v := -1) dX9_init_32 rfl ?_
  refine dn_callS0U (pc := 33) [dnV b v4, .int (-1)]  kRX9_24 (mJ7_fill_53178 w x b v4 (-1)) rfl rfl (Nat.le_of_ble_eq_true rfl) ⟨(Nat.le_of_ble_eq_true rfl), (Nat.le_of_ble_eq_true rfl)⟩ ⟨rfl, rfl, (Nat.le_of_ble_eq_true rfl), (Nat.le_of_ble_eq_true rfl)⟩ dX9_init_33 (fun _ => ?_)
  refine dn_aload_n (pc := 36) r0 0 dX9_init_36 rfl ?_
  refine dn_getR (pc := 37) r0 lRX9_15 dX9_init_37 (fun v6 => ?_)
  refine dn_bipush (pc := 40) (v := -14) dX9_init_40 rfl ?_
  refine dn_callS0U (pc := 42) [dnV b v6, .int (-14)]  kRX9_24 (mJ7_fill_53178 w x b v6 (-14)) rfl rfl (Nat.le_of_ble_eq_true rfl) ⟨(Nat.le_of_ble_eq_true rfl), (Nat.le_of_ble_eq_true rfl)⟩ ⟨rfl, rfl, (Nat.le_of_ble_eq_true rfl), (Nat.le_of_ble_eq_true rfl)⟩ dX9_init_42 (fun _ => ?_)
  refine dn_iconst (pc := 45) (v := 0) dX9_init_45 rfl ?_
  refine dn_istore_n (pc := 46) dX9_init_46 (Nat.le_of_ble_eq_true rfl) (dnKp_nb 0 rfl (dn_cat b _) rfl (dnKp_of (lv2 := []) [] rfl rfl)) ?_
  refine dn_assoc ?_
  refine dn_lv [1, 0] (lv2 := (fun s => [(0, dnV b r0), (1, .int s)]) 0) rfl ?_
  have hI0 : (0 : Int) ≤ (0 : Int32).toInt ∧ (0 : Int32).toInt ≤ 31 := by decide
  refine dn_loopI (pc := 47) (body := fX9_init_b47 r0) (fun s => 0 ≤ s.toInt ∧ s.toInt ≤ 31) (fun s => 3 + 4 * s.toNatClampNeg) (fun s => 66 + 42 * s.toNatClampNeg) 73 127 1368 (fun s => [(0, dnV b r0), (1, .int s)]) (fun q => []) (fun s47 hI K47 E47 hK47 hE47 => ?_) (fun q47 => ?_) 1000 0 hI0
  · have hN : s47.toNatClampNeg = s47.toInt.toNat := rfl
    unfold fX9_init_b47
    refine dn_iload_n (pc := 47) 1 dX9_init_47 rfl ?_
    refine dn_bipush (pc := 48) (v := 31) dX9_init_48 rfl ?_
    refine dn_icmp_ge (pc := 50) 73 dX9_init_50 rfl (fun _ => ?_) (fun hlt => ?_)
    · refine dn_leaf ?_
      refine dn_widen (cells2 := 127) (slots2 := 1368) (by omega) (by omega) ?_
      exact dn_lv [] rfl (hE47 ())
    · have h31 : s47.toInt < 31 := by
        have h1 := Int32.not_le.mp hlt
        exact Int32.lt_iff_toInt_lt.mp h1
      refine dn_aload_n (pc := 53) r0 0 dX9_init_53 rfl ?_
      refine dn_getR (pc := 54) r0 lRX9_20 dX9_init_54 (fun v8 => ?_)
      refine dn_iload_n (pc := 57) 1 dX9_init_57 rfl ?_
      refine dn_new (pc := 58) cl_4 (by decide) kRX9_18 ki_4 kn_4 ⟨(by show 3 + 4 * s47.toNatClampNeg + 1 ≤ 127; omega), (by show 66 + 42 * s47.toNatClampNeg + 6 ≤ 1368; omega)⟩ dX9_init_58 (fun v9 => ?_)
      refine dn_dup (pc := 61) dX9_init_61 (dn_cat b _) ?_
      refine dn_iload_n (pc := 62) 1 dX9_init_62 rfl ?_
      refine dn_callIU (pc := 63) [.int s47] v9 kRX9_30 (mX5_init w x b v9 s47) rfl rfl (Nat.le_of_ble_eq_true rfl) ⟨(Nat.le_of_ble_eq_true rfl), (Nat.le_of_ble_eq_true rfl)⟩ ⟨(by show 3 + 4 * s47.toNatClampNeg + 1 + 3 ≤ 127; omega), (by show 66 + 42 * s47.toNatClampNeg + 6 + 36 ≤ 1368; omega)⟩ dX9_init_63 (fun _ => ?_)
      refine dn_aastW (pc := 66) v8 dX9_init_66 ?_
      refine dn_iinc (pc := 67) (s47 + 1) 1 dX9_init_67 rfl rfl (Nat.le_of_ble_eq_true rfl) (dnKp_nb 0 rfl (dn_cat b _) rfl (dnKp_of (lv2 := []) [] rfl rfl)) ?_
      refine dn_goto (pc := 70) 47 dX9_init_70 rfl ?_
      refine dn_leaf ?_
      have e1 : (s47 + 1).toInt = s47.toInt + 1 := by
        rw [Int32.toInt_add]
        have : (1 : Int32).toInt = 1 := rfl
        rw [this]
        exact Int.bmod_eq_of_le (by omega) (by omega)
      have hN1 : (s47 + 1).toNatClampNeg = (s47 + 1).toInt.toNat := rfl
      refine dn_widen (cells2 := 3 + 4 * (s47 + 1).toNatClampNeg) (slots2 := 66 + 42 * (s47 + 1).toNatClampNeg) (by show 3 + 4 * s47.toNatClampNeg + 1 + 3 ≤ _; omega) (by show 66 + 42 * s47.toNatClampNeg + 6 + 36 ≤ _; omega) ?_
      exact dn_lv [1, 0] rfl (hK47 (s47 + 1) (by omega))
  · exact dn_ret (Nat.le_of_ble_eq_true rfl) (Nat.le_of_ble_eq_true rfl) rfl dX9_init_73

abbrev rmX12_init : Room := { frames := 3, cells := 288, slots := 3237, locals := 63 }
def fX12_init (r0 : Option Nat) : dnM Unit :=
  dnB (dnCk r0 10) fun _ =>
  dnB (dnNo 7) fun v1 =>
  dnB (dnCv v1 7 (fX9_init v1)) fun _ =>
  dnB (dnPR r0 10 0 v1) fun _ =>
  dnB (dnNo 7) fun v3 =>
  dnB (dnCv v3 7 (fX9_init v3)) fun _ =>
  dnB (dnPR r0 10 1 v3) fun _ =>
  dnB (dnNa 105 2) fun v5 =>
  dnB (dnPR r0 10 2 v5) fun _ =>
  dnB (dnNo 1) fun v6 =>
  dnB (dnCv v6 1 (fX2_init v6)) fun _ =>
  dnB (dnPR r0 10 3 v6) fun _ =>
  dnB (dnNo 5) fun v8 =>
  dnB (dnGR r0 10 0) fun v9 =>
  dnB (dnGR r0 10 3) fun v10 =>
  dnB (dnCv v8 5 (fX6_init v8 v9 v10)) fun _ =>
  dnB (dnPR r0 10 4 v8) fun _ =>
  dnB (dnNo 9) fun v12 =>
  dnB (dnGR r0 10 0) fun v13 =>
  dnB (dnGR r0 10 3) fun v14 =>
  dnB (dnCv v12 9 (fX11_init v12 v13 v14)) fun _ =>
  dnB (dnPR r0 10 5 v12) fun _ =>
  dnB (dnNo 8) fun v16 =>
  dnB (dnGR r0 10 0) fun v17 =>
  dnB (dnGR r0 10 3) fun v18 =>
  dnB (dnCv v16 8 (fX10_init v16 v17 v18)) fun _ =>
  dnB (dnPR r0 10 6 v16) fun _ =>
  dnB (dnNo 6) fun v20 =>
  dnB (dnGR r0 10 0) fun v21 =>
  dnB (dnGR r0 10 3) fun v22 =>
  dnB (dnCv v20 6 (fX7_init v20 v21 v22)) fun _ =>
  dnB (dnPR r0 10 7 v20) fun _ =>
  dnB (dnNo 3) fun v24 =>
  dnB (dnGR r0 10 0) fun v25 =>
  dnB (dnGR r0 10 3) fun v26 =>
  dnB (dnCv v24 3 (fX4_init v24 v25 v26)) fun _ =>
  dnB (dnPR r0 10 8 v24) fun _ =>
  dnB (dnNo 2) fun v28 =>
  dnB (dnCv v28 2 (fX3_init v28)) fun _ =>
  dnB (dnPR r0 10 9 v28) fun _ =>
  dnB (dnNo 0) fun v30 =>
  dnB (dnGR r0 10 3) fun v31 =>
  dnB (dnCv v30 0 (fX1_init v30 v31)) fun _ =>
  dnB (dnPR r0 10 10 v30) fun _ =>
  dnB (dnNa 100 11) fun v33 =>
  dnB (dnPR r0 10 11 v33) fun _ =>
  dnP ()
abbrev jX12_init (w : dnWd) (x : dnX) (b : Nat) := dnD w x b (fun _ => True) cX12_init RX12 1 rmX12_init "<init>" eU
set_option maxHeartbeats 4000000 in
set_option maxRecDepth 100000 in
theorem mX12_init (w : dnWd) (x : dnX) (b : Nat) (r0 : Option Nat) : dnMt w x b yX12_init cX12_init 1 none rmX12_init eU [dnV b r0] (fX12_init r0) := by
  have hlv : lv_args 0 [dnV b r0] = [(0, dnV b r0)] := by cases r0 <;> rfl
  refine dn_mt (by decide +kernel) roU (by cases r0 <;> exact (Nat.le_of_ble_eq_true rfl)) ?_
  rw [hlv]
  refine dn_top ?_
  show jX12_init w x b 0 0 0 _ [] (dnB _ dnP)
  unfold fX12_init
  refine dn_aload_n (pc := 0) r0 0 dX12_init_0 rfl ?_
  refine dn_objInitC (pc := 1) r0 kRX12_1 ko_1 ko_2 dX12_init_1 ⟨(Nat.le_of_ble_eq_true rfl), (Nat.le_of_ble_eq_true rfl)⟩ (Nat.le_of_ble_eq_true rfl) ?_
  refine dn_aload_n (pc := 4) r0 0 dX12_init_4 rfl ?_
  refine dn_new (pc := 5) cl_7 (by decide) kRX12_7 ki_7 kn_7 ⟨(Nat.le_of_ble_eq_true rfl), (Nat.le_of_ble_eq_true rfl)⟩ dX12_init_5 (fun v1 => ?_)
  refine dn_dup (pc := 8) dX12_init_8 (dn_cat b _) ?_
  refine dn_callIU (pc := 9) [] v1 kRX12_9 (mX9_init w x b v1) rfl rfl (Nat.le_of_ble_eq_true rfl) ⟨(Nat.le_of_ble_eq_true rfl), (Nat.le_of_ble_eq_true rfl)⟩ ⟨(Nat.le_of_ble_eq_true rfl), (Nat.le_of_ble_eq_true rfl)⟩ dX12_init_9 (fun _ => ?_)
  refine dn_putRF (pc := 12) r0 lRX12_10 rfl rfl dX12_init_12 ?_
  refine dn_aload_n (pc := 15) r0 0 dX12_init_15 rfl ?_
  refine dn_new (pc := 16) cl_7 (by decide) kRX12_7 ki_7 kn_7 ⟨(Nat.le_of_ble_eq_true rfl), (Nat.le_of_ble_eq_true rfl)⟩ dX12_init_16 (fun v3 => ?_)
  refine dn_dup (pc := 19) dX12_init_19 (dn_cat b _) ?_
  refine dn_callIU (pc := 20) [] v3 kRX12_9 (mX9_init w x b v3) rfl rfl (Nat.le_of_ble_eq_true rfl) ⟨(Nat.le_of_ble_eq_true rfl), (Nat.le_of_ble_eq_true rfl)⟩ ⟨(Nat.le_of_ble_eq_true rfl), (Nat.le_of_ble_eq_true rfl)⟩ dX12_init_20 (fun _ => ?_)
  refine dn_putRF (pc := 23) r0 lRX12_16 rfl rfl dX12_init_23 ?_
  refine dn_aload_n (pc := 26) r0 0 dX12_init_26 rfl ?_
  refine dn_iconst (pc := 27) (v := 2) dX12_init_27 rfl ?_
  refine dn_newaS (pc := 28) 2 rfl kRX12_7 (Nat.le_of_ble_eq_true rfl) ⟨(Nat.le_of_ble_eq_true rfl), (Nat.le_of_ble_eq_true rfl)⟩ dX12_init_28 (fun v5 => ?_)
  refine dn_putRF (pc := 31) r0 lRX12_19 rfl rfl dX12_init_31 ?_
  refine dn_aload_n (pc := 34) r0 0 dX12_init_34 rfl ?_
  refine dn_new (pc := 35) cl_1 (by decide) kRX12_23 ki_1 kn_1 ⟨(Nat.le_of_ble_eq_true rfl), (Nat.le_of_ble_eq_true rfl)⟩ dX12_init_35 (fun v6 => ?_)
  refine dn_dup (pc := 38) dX12_init_38 (dn_cat b _) ?_
  refine dn_callIN0U (pc := 39) [] v6 kRX12_25 (mX2_init w x b v6) rfl rfl (Nat.le_of_ble_eq_true rfl) ⟨(Nat.le_of_ble_eq_true rfl), (Nat.le_of_ble_eq_true rfl)⟩ ⟨rfl, rfl, (Nat.le_of_ble_eq_true rfl), (Nat.le_of_ble_eq_true rfl)⟩ dX12_init_39 (fun _ => ?_)
  refine dn_putRF (pc := 42) r0 lRX12_26 rfl rfl dX12_init_42 ?_
  refine dn_aload_n (pc := 45) r0 0 dX12_init_45 rfl ?_
  refine dn_new (pc := 46) cl_5 (by decide) kRX12_30 ki_5 kn_5 ⟨(Nat.le_of_ble_eq_true rfl), (Nat.le_of_ble_eq_true rfl)⟩ dX12_init_46 (fun v8 => ?_)
  refine dn_dup (pc := 49) dX12_init_49 (dn_cat b _) ?_
  refine dn_aload_n (pc := 50) r0 0 dX12_init_50 rfl ?_
  refine dn_getR (pc := 51) r0 lRX12_10 dX12_init_51 (fun v9 => ?_)
  refine dn_aload_n (pc := 54) r0 0 dX12_init_54 rfl ?_
  refine dn_getR (pc := 55) r0 lRX12_26 dX12_init_55 (fun v10 => ?_)
  refine dn_callIU (pc := 58) [dnV b v9, dnV b v10] v8 kRX12_32 (mX6_init w x b v8 v9 v10) rfl rfl (Nat.le_of_ble_eq_true rfl) ⟨(Nat.le_of_ble_eq_true rfl), (Nat.le_of_ble_eq_true rfl)⟩ ⟨(Nat.le_of_ble_eq_true rfl), (Nat.le_of_ble_eq_true rfl)⟩ dX12_init_58 (fun _ => ?_)
  refine dn_putRF (pc := 61) r0 lRX12_35 rfl rfl dX12_init_61 ?_
  refine dn_aload_n (pc := 64) r0 0 dX12_init_64 rfl ?_
  refine dn_new (pc := 65) cl_9 (by decide) kRX12_39 ki_9 kn_9 ⟨(Nat.le_of_ble_eq_true rfl), (Nat.le_of_ble_eq_true rfl)⟩ dX12_init_65 (fun v12 => ?_)
  refine dn_dup (pc := 68) dX12_init_68 (dn_cat b _) ?_
  refine dn_aload_n (pc := 69) r0 0 dX12_init_69 rfl ?_
  refine dn_getR (pc := 70) r0 lRX12_10 dX12_init_70 (fun v13 => ?_)
  refine dn_aload_n (pc := 73) r0 0 dX12_init_73 rfl ?_
  refine dn_getR (pc := 74) r0 lRX12_26 dX12_init_74 (fun v14 => ?_)
  refine dn_callI0U (pc := 77) [dnV b v13, dnV b v14] v12 kRX12_41 (mX11_init w x b v12 v13 v14) rfl rfl (Nat.le_of_ble_eq_true rfl) ⟨(Nat.le_of_ble_eq_true rfl), (Nat.le_of_ble_eq_true rfl)⟩ ⟨rfl, rfl, (Nat.le_of_ble_eq_true rfl), (Nat.le_of_ble_eq_true rfl)⟩ dX12_init_77 (fun _ => ?_)
  refine dn_putRF (pc := 80) r0 lRX12_42 rfl rfl dX12_init_80 ?_
  refine dn_aload_n (pc := 83) r0 0 dX12_init_83 rfl ?_
  refine dn_new (pc := 84) cl_8 (by decide) kRX12_46 ki_8 kn_8 ⟨(Nat.le_of_ble_eq_true rfl), (Nat.le_of_ble_eq_true rfl)⟩ dX12_init_84 (fun v16 => ?_)
  refine dn_dup (pc := 87) dX12_init_87 (dn_cat b _) ?_
  refine dn_aload_n (pc := 88) r0 0 dX12_init_88 rfl ?_
  refine dn_getR (pc := 89) r0 lRX12_10 dX12_init_89 (fun v17 => ?_)
  refine dn_aload_n (pc := 92) r0 0 dX12_init_92 rfl ?_
  refine dn_getR (pc := 93) r0 lRX12_26 dX12_init_93 (fun v18 => ?_)
  refine dn_callI0U (pc := 96) [dnV b v17, dnV b v18] v16 kRX12_48 (mX10_init w x b v16 v17 v18) rfl rfl (Nat.le_of_ble_eq_true rfl) ⟨(Nat.le_of_ble_eq_true rfl), (Nat.le_of_ble_eq_true rfl)⟩ ⟨rfl, rfl, (Nat.le_of_ble_eq_true rfl), (Nat.le_of_ble_eq_true rfl)⟩ dX12_init_96 (fun _ => ?_)
  refine dn_putRF (pc := 99) r0 lRX12_49 rfl rfl dX12_init_99 ?_
  refine dn_aload_n (pc := 102) r0 0 dX12_init_102 rfl ?_
  refine dn_new (pc := 103) cl_6 (by decide) kRX12_53 ki_6 kn_6 ⟨(Nat.le_of_ble_eq_true rfl), (Nat.le_of_ble_eq_true rfl)⟩ dX12_init_103 (fun v20 => ?_)
  refine dn_dup (pc := 106) dX12_init_106 (dn_cat b _) ?_
  refine dn_aload_n (pc := 107) r0 0 dX12_init_107 rfl ?_
  refine dn_getR (pc := 108) r0 lRX12_10 dX12_init_108 (fun v21 => ?_)
  refine dn_aload_n (pc := 111) r0 0 dX12_init_111 rfl ?_
  refine dn_getR (pc := 112) r0 lRX12_26 dX12_init_112 (fun v22 => ?_)
  refine dn_callIU (pc := 115) [dnV b v21, dnV b v22] v20 kRX12_55 (mX7_init w x b v20 v21 v22) rfl rfl (Nat.le_of_ble_eq_true rfl) ⟨(Nat.le_of_ble_eq_true rfl), (Nat.le_of_ble_eq_true rfl)⟩ ⟨(Nat.le_of_ble_eq_true rfl), (Nat.le_of_ble_eq_true rfl)⟩ dX12_init_115 (fun _ => ?_)
  refine dn_putRF (pc := 118) r0 lRX12_56 rfl rfl dX12_init_118 ?_
  refine dn_aload_n (pc := 121) r0 0 dX12_init_121 rfl ?_
  refine dn_new (pc := 122) cl_3 (by decide) kRX12_60 ki_3 kn_3 ⟨(Nat.le_of_ble_eq_true rfl), (Nat.le_of_ble_eq_true rfl)⟩ dX12_init_122 (fun v24 => ?_)
  refine dn_dup (pc := 125) dX12_init_125 (dn_cat b _) ?_
  refine dn_aload_n (pc := 126) r0 0 dX12_init_126 rfl ?_
  refine dn_getR (pc := 127) r0 lRX12_10 dX12_init_127 (fun v25 => ?_)
  refine dn_aload_n (pc := 130) r0 0 dX12_init_130 rfl ?_
  refine dn_getR (pc := 131) r0 lRX12_26 dX12_init_131 (fun v26 => ?_)
  refine dn_callIU (pc := 134) [dnV b v25, dnV b v26] v24 kRX12_62 (mX4_init w x b v24 v25 v26) rfl rfl (Nat.le_of_ble_eq_true rfl) ⟨(Nat.le_of_ble_eq_true rfl), (Nat.le_of_ble_eq_true rfl)⟩ ⟨(Nat.le_of_ble_eq_true rfl), (Nat.le_of_ble_eq_true rfl)⟩ dX12_init_134 (fun _ => ?_)
  refine dn_putRF (pc := 137) r0 lRX12_63 rfl rfl dX12_init_137 ?_
  refine dn_aload_n (pc := 140) r0 0 dX12_init_140 rfl ?_
  refine dn_new (pc := 141) cl_2 (by decide) kRX12_67 ki_2 kn_2 ⟨(Nat.le_of_ble_eq_true rfl), (Nat.le_of_ble_eq_true rfl)⟩ dX12_init_141 (fun v28 => ?_)
  refine dn_dup (pc := 144) dX12_init_144 (dn_cat b _) ?_
  refine dn_callINU (pc := 145) [] v28 kRX12_69 (mX3_init w x b v28) rfl rfl (Nat.le_of_ble_eq_true rfl) ⟨(Nat.le_of_ble_eq_true rfl), (Nat.le_of_ble_eq_true rfl)⟩ ⟨(Nat.le_of_ble_eq_true rfl), (Nat.le_of_ble_eq_true rfl)⟩ dX12_init_145 (fun _ => ?_)
  refine dn_putRF (pc := 148) r0 lRX12_70 rfl rfl dX12_init_148 ?_
  refine dn_aload_n (pc := 151) r0 0 dX12_init_151 rfl ?_
  refine dn_new (pc := 152) cl_0 (by decide) kRX12_74 ki_0 kn_0 ⟨(Nat.le_of_ble_eq_true rfl), (Nat.le_of_ble_eq_true rfl)⟩ dX12_init_152 (fun v30 => ?_)
  refine dn_dup (pc := 155) dX12_init_155 (dn_cat b _) ?_
  refine dn_aload_n (pc := 156) r0 0 dX12_init_156 rfl ?_
  refine dn_getR (pc := 157) r0 lRX12_26 dX12_init_157 (fun v31 => ?_)
  refine dn_callIU (pc := 160) [dnV b v31] v30 kRX12_76 (mX1_init w x b v30 v31) rfl rfl (Nat.le_of_ble_eq_true rfl) ⟨(Nat.le_of_ble_eq_true rfl), (Nat.le_of_ble_eq_true rfl)⟩ ⟨(Nat.le_of_ble_eq_true rfl), (Nat.le_of_ble_eq_true rfl)⟩ dX12_init_160 (fun _ => ?_)
  refine dn_putRF (pc := 163) r0 lRX12_79 rfl rfl dX12_init_163 ?_
  refine dn_aload_n (pc := 166) r0 0 dX12_init_166 rfl ?_
  refine dn_bipush (pc := 167) (v := 11) dX12_init_167 rfl ?_
  refine dn_newaI (pc := 169) 11 rfl ka_int (Nat.le_of_ble_eq_true rfl) ⟨(Nat.le_of_ble_eq_true rfl), (Nat.le_of_ble_eq_true rfl)⟩ dX12_init_169 (fun v33 => ?_)
  refine dn_putRF (pc := 171) r0 lRX12_83 rfl rfl dX12_init_171 ?_
  exact dn_ret (Nat.le_of_ble_eq_true rfl) (Nat.le_of_ble_eq_true rfl) rfl dX12_init_174
abbrev rmX12_keep : Room := { frames := 3, cells := 128, slots := 1371, locals := 103 }
def fX12_keep_j35 (l0 : Option Nat) (l1 : Int32) : dnM Int32 :=
  dnB (dnGR l0 10 2) fun v1 =>
  dnB (dnAR v1 105 l1) fun v2 =>
  dnB (dnGR l0 10 0) fun v3 =>
  dnB (dnCv v2 7 (fX9_copyFrom v2 v3)) fun _ =>
  dnB (dnGR l0 10 0) fun v5 =>
  dnB (dnCv v5 7 (fX9_presentGrids v5)) fun v6 =>
  dnP v6
def fX12_keep (r0 : Option Nat) (p1 : Int32) : dnM Int32 :=
  dnB (fX12_isImage p1) fun v7 =>
  if v7 = true then
  (dnB (dnGR r0 10 2) fun v8 =>
  dnB (dnAR v8 105 p1) fun v9 =>
  v9.elim
  (dnB (dnGR r0 10 2) fun v11 =>
  dnB (dnNo 7) fun v12 =>
  dnB (dnCv v12 7 (fX9_init v12)) fun _ =>
  dnB (dnTR v11 105 7 p1 v12) fun _ =>
  fX12_keep_j35 r0 p1)
  (fun v10 => fX12_keep_j35 r0 p1))
  else
  (dnB (dnCv r0 10 (fX12_tally r0 (-1))) fun v14 =>
  dnP v14)
abbrev jX12_keep (w : dnWd) (x : dnX) (b : Nat) := dnD w x b (fun _ => True) cX12_keep RX12 2 rmX12_keep "keep" eI
set_option maxHeartbeats 4000000 in
set_option maxRecDepth 100000 in
theorem mX12_keep (w : dnWd) (x : dnX) (b : Nat) (r0 : Option Nat) (p1 : Int32) : dnMt w x b yX12_keep cX12_keep 2 (some .int) rmX12_keep eI [dnV b r0, .int p1] (fX12_keep r0 p1) := by
  have hlv : lv_args 0 [dnV b r0, .int p1] = [(0, dnV b r0), (1, .int p1)] := by cases r0 <;> rfl
  refine dn_mt (by decide +kernel) roI (by cases r0 <;> exact (Nat.le_of_ble_eq_true rfl)) ?_
  rw [hlv]
  refine dn_top ?_
  show jX12_keep w x b 0 0 0 _ [] (dnB _ dnP)
  unfold fX12_keep
  have hj35 : ∀ (l0 : Option Nat) (l1 : Int32), jX12_keep w x b 35 128 1371 [(0, dnV b l0), (1, .int l1)] [] (dnB (fX12_keep_j35 l0 l1) dnP) := by
    intro l0 l1
    unfold fX12_keep_j35
    refine dn_aload_n (pc := 35) l0 0 dX12_keep_35 rfl ?_
    refine dn_getR (pc := 36) l0 lRX12_19 dX12_keep_36 (fun v1 => ?_)
    refine dn_iload_n (pc := 39) 1 dX12_keep_39 rfl ?_
    refine dn_aaldS (pc := 40) v1 dX12_keep_40 (fun v2 => ?_)
    refine dn_aload_n (pc := 41) l0 0 dX12_keep_41 rfl ?_
    refine dn_getR (pc := 42) l0 lRX12_10 dX12_keep_42 (fun v3 => ?_)
    refine dn_callV0U (pc := 45) [dnV b v3] v2 kRX12_216 (mX9_copyFrom w x b v2 v3) rfl rfl (Nat.le_of_ble_eq_true rfl) ⟨(Nat.le_of_ble_eq_true rfl), (Nat.le_of_ble_eq_true rfl)⟩ ⟨rfl, rfl, (Nat.le_of_ble_eq_true rfl), (Nat.le_of_ble_eq_true rfl)⟩ dX12_keep_45 (fun _ => ?_)
    refine dn_aload_n (pc := 48) l0 0 dX12_keep_48 rfl ?_
    refine dn_getR (pc := 49) l0 lRX12_10 dX12_keep_49 (fun v5 => ?_)
    refine dn_callV0I (pc := 52) [] v5 kRX12_256 (mX9_presentGrids w x b v5) rfl rfl (Nat.le_of_ble_eq_true rfl) ⟨(Nat.le_of_ble_eq_true rfl), (Nat.le_of_ble_eq_true rfl)⟩ ⟨rfl, rfl, (Nat.le_of_ble_eq_true rfl), (Nat.le_of_ble_eq_true rfl)⟩ dX12_keep_52 (fun v6 => ?_)
    exact dn_ret (Nat.le_of_ble_eq_true rfl) (Nat.le_of_ble_eq_true rfl) rfl dX12_keep_55
  refine dn_iload_n (pc := 0) 1 dX12_keep_0 rfl ?_
  refine dn_callS0Z (pc := 1) [.int p1]  kRX12_253 (mX12_isImage w x b p1) rfl rfl (Nat.le_of_ble_eq_true rfl) ⟨(Nat.le_of_ble_eq_true rfl), (Nat.le_of_ble_eq_true rfl)⟩ ⟨rfl, rfl, (Nat.le_of_ble_eq_true rfl), (Nat.le_of_ble_eq_true rfl)⟩ dX12_keep_1 (fun v7 => ?_)
  refine dn_ifz_ne (pc := 4) 13 dX12_keep_4 rfl (fun _ => ?_) (fun _ => ?_)
  · refine dn_aload_n (pc := 13) r0 0 dX12_keep_13 rfl ?_
    refine dn_getR (pc := 14) r0 lRX12_19 dX12_keep_14 (fun v8 => ?_)
    refine dn_iload_n (pc := 17) 1 dX12_keep_17 rfl ?_
    refine dn_aaldS (pc := 18) v8 dX12_keep_18 (fun v9 => ?_)
    refine dn_ifnonnull (pc := 19) v9 35 dX12_keep_19 rfl (fun e_ => ?_) (fun v10 e_ => ?_)
    · subst e_
      refine dn_aload_n (pc := 22) r0 0 dX12_keep_22 rfl ?_
      refine dn_getR (pc := 23) r0 lRX12_19 dX12_keep_23 (fun v11 => ?_)
      refine dn_iload_n (pc := 26) 1 dX12_keep_26 rfl ?_
      refine dn_new (pc := 27) cl_7 (by decide) kRX12_7 ki_7 kn_7 ⟨(Nat.le_of_ble_eq_true rfl), (Nat.le_of_ble_eq_true rfl)⟩ dX12_keep_27 (fun v12 => ?_)
      refine dn_dup (pc := 30) dX12_keep_30 (dn_cat b _) ?_
      refine dn_callIU (pc := 31) [] v12 kRX12_9 (mX9_init w x b v12) rfl rfl (Nat.le_of_ble_eq_true rfl) ⟨(Nat.le_of_ble_eq_true rfl), (Nat.le_of_ble_eq_true rfl)⟩ ⟨(Nat.le_of_ble_eq_true rfl), (Nat.le_of_ble_eq_true rfl)⟩ dX12_keep_31 (fun _ => ?_)
      refine dn_aastS (pc := 34) v11 dX12_keep_34 ?_
      exact dn_lv [0, 1] rfl (hj35 r0 p1)
    · subst e_
      refine dn_widen (cells2 := 128) (slots2 := 1371) (Nat.le_of_ble_eq_true rfl) (Nat.le_of_ble_eq_true rfl) ?_
      exact dn_lv [0, 1] rfl (hj35 r0 p1)
  · refine dn_aload_n (pc := 7) r0 0 dX12_keep_7 rfl ?_
    refine dn_iconst (pc := 8) (v := -1) dX12_keep_8 rfl ?_
    refine dn_callV0I (pc := 9) [.int (-1)] r0 kRX12_91 (mX12_tally w x b r0 (-1)) rfl rfl (Nat.le_of_ble_eq_true rfl) ⟨(Nat.le_of_ble_eq_true rfl), (Nat.le_of_ble_eq_true rfl)⟩ ⟨rfl, rfl, (Nat.le_of_ble_eq_true rfl), (Nat.le_of_ble_eq_true rfl)⟩ dX12_keep_9 (fun v14 => ?_)
    exact dn_ret (Nat.le_of_ble_eq_true rfl) (Nat.le_of_ble_eq_true rfl) rfl dX12_keep_12
abbrev rmX13_init : Room := { frames := 1, cells := 31, slots := 5324, locals := 20 }
def fX13_init (r0 : Option Nat) : dnM Unit :=
  dnB (dnCk r0 11) fun _ =>
  dnB (dnNa 100 11) fun v1 =>
  dnB (dnPR r0 11 0 v1) fun _ =>
  dnB (dnPI r0 11 2 (-9)) fun _ =>
  dnB (dnNa 100 4) fun v2 =>
  dnB (dnTI v2 100 0 (-1)) fun _ =>
  dnB (dnTI v2 100 1 (-1)) fun _ =>
  dnB (dnTI v2 100 2 (-1)) fun _ =>
  dnB (dnTI v2 100 3 (-1)) fun _ =>
  dnB (dnPR r0 11 4 v2) fun _ =>
  dnB (dnNa 100 24) fun v3 =>
  dnB (dnTI v3 100 0 (-1)) fun _ =>
  dnB (dnTI v3 100 1 (-1)) fun _ =>
  dnB (dnTI v3 100 2 (-1)) fun _ =>
  dnB (dnTI v3 100 3 (-1)) fun _ =>
  dnB (dnTI v3 100 4 (-1)) fun _ =>
  dnB (dnTI v3 100 5 (-1)) fun _ =>
  dnB (dnTI v3 100 6 (-1)) fun _ =>
  dnB (dnTI v3 100 7 (-1)) fun _ =>
  dnB (dnTI v3 100 8 (-1)) fun _ =>
  dnB (dnTI v3 100 9 (-1)) fun _ =>
  dnB (dnTI v3 100 10 (-1)) fun _ =>
  dnB (dnTI v3 100 11 (-1)) fun _ =>
  dnB (dnTI v3 100 12 (-1)) fun _ =>
  dnB (dnTI v3 100 13 (-1)) fun _ =>
  dnB (dnTI v3 100 14 (-1)) fun _ =>
  dnB (dnTI v3 100 15 (-1)) fun _ =>
  dnB (dnTI v3 100 16 (-1)) fun _ =>
  dnB (dnTI v3 100 17 (-1)) fun _ =>
  dnB (dnTI v3 100 18 (-1)) fun _ =>
  dnB (dnTI v3 100 19 (-1)) fun _ =>
  dnB (dnTI v3 100 20 (-1)) fun _ =>
  dnB (dnTI v3 100 21 (-1)) fun _ =>
  dnB (dnTI v3 100 22 (-1)) fun _ =>
  dnB (dnTI v3 100 23 (-1)) fun _ =>
  dnB (dnPR r0 11 5 v3) fun _ =>
  dnB (dnNa 100 32) fun v4 =>
  dnB (dnPR r0 11 6 v4) fun _ =>
  dnB (dnNa 100 32) fun v5 =>
  dnB (dnPR r0 11 7 v5) fun _ =>
  dnB (dnNa 100 32) fun v6 =>
  dnB (dnPR r0 11 8 v6) fun _ =>
  dnB (dnNa 100 384) fun v7 =>
  dnB (dnPR r0 11 9 v7) fun _ =>
  dnB (dnNa 102 384) fun v8 =>
  dnB (dnPR r0 11 10 v8) fun _ =>
  dnB (dnNa 103 384) fun v9 =>
  dnB (dnPR r0 11 11 v9) fun _ =>
  dnB (dnNa 100 12) fun v10 =>
  dnB (dnPR r0 11 15 v10) fun _ =>
  dnB (dnNa 102 12) fun v11 =>
  dnB (dnPR r0 11 16 v11) fun _ =>
  dnB (dnNa 103 12) fun v12 =>
  dnB (dnPR r0 11 17 v12) fun _ =>
  dnB (dnNa 100 6) fun v13 =>
  dnB (dnPR r0 11 18 v13) fun _ =>
  dnB (dnNa 102 12) fun v14 =>
  dnB (dnPR r0 11 22 v14) fun _ =>
  dnB (dnNa 100 12) fun v15 =>
  dnB (dnPR r0 11 23 v15) fun _ =>
  dnB (dnNa 102 12) fun v16 =>
  dnB (dnPR r0 11 24 v16) fun _ =>
  dnB (dnNa 100 12) fun v17 =>
  dnB (dnPR r0 11 25 v17) fun _ =>
  dnB (dnNa 100 72) fun v18 =>
  dnB (dnPR r0 11 26 v18) fun _ =>
  dnB (dnNa 100 3) fun v19 =>
  dnB (dnPR r0 11 28 v19) fun _ =>
  dnB (dnNa 100 12) fun v20 =>
  dnB (dnPR r0 11 29 v20) fun _ =>
  dnB (dnNa 100 72) fun v21 =>
  dnB (dnPR r0 11 30 v21) fun _ =>
  dnB (dnNa 100 96) fun v22 =>
  dnB (dnPR r0 11 31 v22) fun _ =>
  dnB (dnNa 100 96) fun v23 =>
  dnB (dnPR r0 11 32 v23) fun _ =>
  dnB (dnNa 100 1152) fun v24 =>
  dnB (dnPR r0 11 33 v24) fun _ =>
  dnB (dnNa 102 1152) fun v25 =>
  dnB (dnPR r0 11 34 v25) fun _ =>
  dnB (dnNa 103 1152) fun v26 =>
  dnB (dnPR r0 11 35 v26) fun _ =>
  dnB (dnNa 100 80) fun v27 =>
  dnB (dnPR r0 11 36 v27) fun _ =>
  dnB (dnNa 100 8) fun v28 =>
  dnB (dnPR r0 11 41 v28) fun _ =>
  dnB (dnNa 100 40) fun v29 =>
  dnB (dnPR r0 11 42 v29) fun _ =>
  dnB (dnNa 100 6) fun v30 =>
  dnB (dnPR r0 11 44 v30) fun _ =>
  dnB (dnNa 100 6) fun v31 =>
  dnB (dnPR r0 11 45 v31) fun _ =>
  dnP ()
abbrev jX13_init (w : dnWd) (x : dnX) (b : Nat) := dnD w x b (fun _ => True) cX13_init RX13 1 rmX13_init "<init>" eU
set_option maxHeartbeats 4000000 in
set_option maxRecDepth 100000 in
theorem mX13_init (w : dnWd) (x : dnX) (b : Nat) (r0 : Option Nat) : dnMt w x b yX13_init cX13_init 1 none rmX13_init eU [dnV b r0] (fX13_init r0) := by
  have hlv : lv_args 0 [dnV b r0] = [(0, dnV b r0)] := by cases r0 <;> rfl
  refine dn_mt (by decide +kernel) roU (by cases r0 <;> exact (Nat.le_of_ble_eq_true rfl)) ?_
  rw [hlv]
  refine dn_top ?_
  show jX13_init w x b 0 0 0 _ [] (dnB _ dnP)
  unfold fX13_init
  refine dn_aload_n (pc := 0) r0 0 dX13_init_0 rfl ?_
  refine dn_objInitC (pc := 1) r0 kRX13_1 ko_1 ko_2 dX13_init_1 ⟨(Nat.le_of_ble_eq_true rfl), (Nat.le_of_ble_eq_true rfl)⟩ (Nat.le_of_ble_eq_true rfl) ?_
  refine dn_aload_n (pc := 4) r0 0 dX13_init_4 rfl ?_
  refine dn_bipush (pc := 5) (v := 11) dX13_init_5 rfl ?_
  refine dn_newaI (pc := 7) 11 rfl ka_int (Nat.le_of_ble_eq_true rfl) ⟨(Nat.le_of_ble_eq_true rfl), (Nat.le_of_ble_eq_true rfl)⟩ dX13_init_7 (fun v1 => ?_)
  refine dn_putRF (pc := 9) r0 lRX13_7 rfl rfl dX13_init_9 ?_
  refine dn_aload_n (pc := 12) r0 0 dX13_init_12 rfl ?_
  refine dn_bipush (pc := 13) (v := -9) dX13_init_13 rfl ?_
  refine dn_putI (pc := 15) r0 lRX13_13 dX13_init_15 ?_
  refine dn_aload_n (pc := 18) r0 0 dX13_init_18 rfl ?_
  refine dn_iconst (pc := 19) (v := 4) dX13_init_19 rfl ?_
  refine dn_newaI (pc := 20) 4 rfl ka_int (Nat.le_of_ble_eq_true rfl) ⟨(Nat.le_of_ble_eq_true rfl), (Nat.le_of_ble_eq_true rfl)⟩ dX13_init_20 (fun v2 => ?_)
  refine dn_dup (pc := 22) dX13_init_22 (dn_cat b _) ?_
  refine dn_iconst (pc := 23) (v := 0) dX13_init_23 rfl ?_
  refine dn_iconst (pc := 24) (v := -1) dX13_init_24 rfl ?_
  refine dn_iast (pc := 25) v2 dX13_init_25 ?_
  refine dn_dup (pc := 26) dX13_init_26 (dn_cat b _) ?_
  refine dn_iconst (pc := 27) (v := 1) dX13_init_27 rfl ?_
  refine dn_iconst (pc := 28) (v := -1) dX13_init_28 rfl ?_
  refine dn_iast (pc := 29) v2 dX13_init_29 ?_
  refine dn_dup (pc := 30) dX13_init_30 (dn_cat b _) ?_
  refine dn_iconst (pc := 31) (v := 2) dX13_init_31 rfl ?_
  refine dn_iconst (pc := 32) (v := -1) dX13_init_32 rfl ?_
  refine dn_iast (pc := 33) v2 dX13_init_33 ?_
  refine dn_dup (pc := 34) dX13_init_34 (dn_cat b _) ?_
  refine dn_iconst (pc := 35) (v := 3) dX13_init_35 rfl ?_
  refine dn_iconst (pc := 36) (v := -1) dX13_init_36 rfl ?_
  refine dn_iast (pc := 37) v2 dX13_init_37 ?_
  refine dn_putRF (pc := 38) r0 lRX13_17 rfl rfl dX13_init_38 ?_
  refine dn_aload_n (pc := 41) r0 0 dX13_init_41 rfl ?_
  refine dn_bipush (pc := 42) (v := 24) dX13_init_42 rfl ?_
  refine dn_newaI (pc := 44) 24 rfl ka_int (Nat.le_of_ble_eq_true rfl) ⟨(Nat.le_of_ble_eq_true rfl), (Nat.le_of_ble_eq_true rfl)⟩ dX13_init_44 (fun v3 => ?_)
  refine dn_dup (pc := 46) dX13_init_46 (dn_cat b _) ?_
  refine dn_iconst (pc := 47) (v := 0) dX13_init_47 rfl ?_
  refine dn_iconst (pc := 48) (v := -1) dX13_init_48 rfl ?_
  refine dn_iast (pc := 49) v3 dX13_init_49 ?_
  refine dn_dup (pc := 50) dX13_init_50 (dn_cat b _) ?_
  refine dn_iconst (pc := 51) (v := 1) dX13_init_51 rfl ?_
  refine dn_iconst (pc := 52) (v := -1) dX13_init_52 rfl ?_
  refine dn_iast (pc := 53) v3 dX13_init_53 ?_
  refine dn_dup (pc := 54) dX13_init_54 (dn_cat b _) ?_
  refine dn_iconst (pc := 55) (v := 2) dX13_init_55 rfl ?_
  refine dn_iconst (pc := 56) (v := -1) dX13_init_56 rfl ?_
  refine dn_iast (pc := 57) v3 dX13_init_57 ?_
  refine dn_dup (pc := 58) dX13_init_58 (dn_cat b _) ?_
  refine dn_iconst (pc := 59) (v := 3) dX13_init_59 rfl ?_
  refine dn_iconst (pc := 60) (v := -1) dX13_init_60 rfl ?_
  refine dn_iast (pc := 61) v3 dX13_init_61 ?_
  refine dn_dup (pc := 62) dX13_init_62 (dn_cat b _) ?_
  refine dn_iconst (pc := 63) (v := 4) dX13_init_63 rfl ?_
  refine dn_iconst (pc := 64) (v := -1) dX13_init_64 rfl ?_
  refine dn_iast (pc := 65) v3 dX13_init_65 ?_
  refine dn_dup (pc := 66) dX13_init_66 (dn_cat b _) ?_
  refine dn_iconst (pc := 67) (v := 5) dX13_init_67 rfl ?_
  refine dn_iconst (pc := 68) (v := -1) dX13_init_68 rfl ?_
  refine dn_iast (pc := 69) v3 dX13_init_69 ?_
  refine dn_dup (pc := 70) dX13_init_70 (dn_cat b _) ?_
  refine dn_bipush (pc := 71) (v := 6) dX13_init_71 rfl ?_
  refine dn_iconst (pc := 73) (v := -1) dX13_init_73 rfl ?_
  refine dn_iast (pc := 74) v3 dX13_init_74 ?_
  refine dn_dup (pc := 75) dX13_init_75 (dn_cat b _) ?_
  refine dn_bipush (pc := 76) (v := 7) dX13_init_76 rfl ?_
  refine dn_iconst (pc := 78) (v := -1) dX13_init_78 rfl ?_
  refine dn_iast (pc := 79) v3 dX13_init_79 ?_
  refine dn_dup (pc := 80) dX13_init_80 (dn_cat b _) ?_
  refine dn_bipush (pc := 81) (v := 8) dX13_init_81 rfl ?_
  refine dn_iconst (pc := 83) (v := -1) dX13_init_83 rfl ?_
  refine dn_iast (pc := 84) v3 dX13_init_84 ?_
  refine dn_dup (pc := 85) dX13_init_85 (dn_cat b _) ?_
  refine dn_bipush (pc := 86) (v := 9) dX13_init_86 rfl ?_
  refine dn_iconst (pc := 88) (v := -1) dX13_init_88 rfl ?_
  refine dn_iast (pc := 89) v3 dX13_init_89 ?_
  refine dn_dup (pc := 90) dX13_init_90 (dn_cat b _) ?_
  refine dn_bipush (pc := 91) (v := 10) dX13_init_91 rfl ?_
  refine dn_iconst (pc := 93) (v := -1) dX13_init_93 rfl ?_
  refine dn_iast (pc := 94) v3 dX13_init_94 ?_
  refine dn_dup (pc := 95) dX13_init_95 (dn_cat b _) ?_
  refine dn_bipush (pc := 96) (v := 11) dX13_init_96 rfl ?_
  refine dn_iconst (pc := 98) (v := -1) dX13_init_98 rfl ?_
  refine dn_iast (pc := 99) v3 dX13_init_99 ?_
  refine dn_dup (pc := 100) dX13_init_100 (dn_cat b _) ?_
  refine dn_bipush (pc := 101) (v := 12) dX13_init_101 rfl ?_
  refine dn_iconst (pc := 103) (v := -1) dX13_init_103 rfl ?_
  refine dn_iast (pc := 104) v3 dX13_init_104 ?_
  refine dn_dup (pc := 105) dX13_init_105 (dn_cat b _) ?_
  refine dn_bipush (pc := 106) (v := 13) dX13_init_106 rfl ?_
  refine dn_iconst (pc := 108) (v := -1) dX13_init_108 rfl ?_
  refine dn_iast (pc := 109) v3 dX13_init_109 ?_
  refine dn_dup (pc := 110) dX13_init_110 (dn_cat b _) ?_
  refine dn_bipush (pc := 111) (v := 14) dX13_init_111 rfl ?_
  refine dn_iconst (pc := 113) (v := -1) dX13_init_113 rfl ?_
  refine dn_iast (pc := 114) v3 dX13_init_114 ?_
  refine dn_dup (pc := 115) dX13_init_115 (dn_cat b _) ?_
  refine dn_bipush (pc := 116) (v := 15) dX13_init_116 rfl ?_
  refine dn_iconst (pc := 118) (v := -1) dX13_init_118 rfl ?_
  refine dn_iast (pc := 119) v3 dX13_init_119 ?_
  refine dn_dup (pc := 120) dX13_init_120 (dn_cat b _) ?_
  refine dn_bipush (pc := 121) (v := 16) dX13_init_121 rfl ?_
  refine dn_iconst (pc := 123) (v := -1) dX13_init_123 rfl ?_
  refine dn_iast (pc := 124) v3 dX13_init_124 ?_
  refine dn_dup (pc := 125) dX13_init_125 (dn_cat b _) ?_
  refine dn_bipush (pc := 126) (v := 17) dX13_init_126 rfl ?_
  refine dn_iconst (pc := 128) (v := -1) dX13_init_128 rfl ?_
  refine dn_iast (pc := 129) v3 dX13_init_129 ?_
  refine dn_dup (pc := 130) dX13_init_130 (dn_cat b _) ?_
  refine dn_bipush (pc := 131) (v := 18) dX13_init_131 rfl ?_
  refine dn_iconst (pc := 133) (v := -1) dX13_init_133 rfl ?_
  refine dn_iast (pc := 134) v3 dX13_init_134 ?_
  refine dn_dup (pc := 135) dX13_init_135 (dn_cat b _) ?_
  refine dn_bipush (pc := 136) (v := 19) dX13_init_136 rfl ?_
  refine dn_iconst (pc := 138) (v := -1) dX13_init_138 rfl ?_
  refine dn_iast (pc := 139) v3 dX13_init_139 ?_
  refine dn_dup (pc := 140) dX13_init_140 (dn_cat b _) ?_
  refine dn_bipush (pc := 141) (v := 20) dX13_init_141 rfl ?_
  refine dn_iconst (pc := 143) (v := -1) dX13_init_143 rfl ?_
  refine dn_iast (pc := 144) v3 dX13_init_144 ?_
  refine dn_dup (pc := 145) dX13_init_145 (dn_cat b _) ?_
  refine dn_bipush (pc := 146) (v := 21) dX13_init_146 rfl ?_
  refine dn_iconst (pc := 148) (v := -1) dX13_init_148 rfl ?_
  refine dn_iast (pc := 149) v3 dX13_init_149 ?_
  refine dn_dup (pc := 150) dX13_init_150 (dn_cat b _) ?_
  refine dn_bipush (pc := 151) (v := 22) dX13_init_151 rfl ?_
  refine dn_iconst (pc := 153) (v := -1) dX13_init_153 rfl ?_
  refine dn_iast (pc := 154) v3 dX13_init_154 ?_
  refine dn_dup (pc := 155) dX13_init_155 (dn_cat b _) ?_
  refine dn_bipush (pc := 156) (v := 23) dX13_init_156 rfl ?_
  refine dn_iconst (pc := 158) (v := -1) dX13_init_158 rfl ?_
  refine dn_iast (pc := 159) v3 dX13_init_159 ?_
  refine dn_putRF (pc := 160) r0 lRX13_20 rfl rfl dX13_init_160 ?_
  refine dn_aload_n (pc := 163) r0 0 dX13_init_163 rfl ?_
  refine dn_bipush (pc := 164) (v := 32) dX13_init_164 rfl ?_
  refine dn_newaI (pc := 166) 32 rfl ka_int (Nat.le_of_ble_eq_true rfl) ⟨(Nat.le_of_ble_eq_true rfl), (Nat.le_of_ble_eq_true rfl)⟩ dX13_init_166 (fun v4 => ?_)
  refine dn_putRF (pc := 168) r0 lRX13_23 rfl rfl dX13_init_168 ?_
  refine dn_aload_n (pc := 171) r0 0 dX13_init_171 rfl ?_
  refine dn_bipush (pc := 172) (v := 32) dX13_init_172 rfl ?_
  refine dn_newaI (pc := 174) 32 rfl ka_int (Nat.le_of_ble_eq_true rfl) ⟨(Nat.le_of_ble_eq_true rfl), (Nat.le_of_ble_eq_true rfl)⟩ dX13_init_174 (fun v5 => ?_)
  refine dn_putRF (pc := 176) r0 lRX13_26 rfl rfl dX13_init_176 ?_
  refine dn_aload_n (pc := 179) r0 0 dX13_init_179 rfl ?_
  refine dn_bipush (pc := 180) (v := 32) dX13_init_180 rfl ?_
  refine dn_newaI (pc := 182) 32 rfl ka_int (Nat.le_of_ble_eq_true rfl) ⟨(Nat.le_of_ble_eq_true rfl), (Nat.le_of_ble_eq_true rfl)⟩ dX13_init_182 (fun v6 => ?_)
  refine dn_putRF (pc := 184) r0 lRX13_29 rfl rfl dX13_init_184 ?_
  refine dn_aload_n (pc := 187) r0 0 dX13_init_187 rfl ?_
  refine dn_sipush (pc := 188) (v := 384) dX13_init_188 rfl ?_
  refine dn_newaI (pc := 191) 384 rfl ka_int (Nat.le_of_ble_eq_true rfl) ⟨(Nat.le_of_ble_eq_true rfl), (Nat.le_of_ble_eq_true rfl)⟩ dX13_init_191 (fun v7 => ?_)
  refine dn_putRF (pc := 193) r0 lRX13_32 rfl rfl dX13_init_193 ?_
  refine dn_aload_n (pc := 196) r0 0 dX13_init_196 rfl ?_
  refine dn_sipush (pc := 197) (v := 384) dX13_init_197 rfl ?_
  refine dn_newaL (pc := 200) 384 rfl ka_long (Nat.le_of_ble_eq_true rfl) ⟨(Nat.le_of_ble_eq_true rfl), (Nat.le_of_ble_eq_true rfl)⟩ dX13_init_200 (fun v8 => ?_)
  refine dn_putRF (pc := 202) r0 lRX13_35 rfl rfl dX13_init_202 ?_
  refine dn_aload_n (pc := 205) r0 0 dX13_init_205 rfl ?_
  refine dn_sipush (pc := 206) (v := 384) dX13_init_206 rfl ?_
  refine dn_newaD (pc := 209) 384 rfl ka_double (Nat.le_of_ble_eq_true rfl) ⟨(Nat.le_of_ble_eq_true rfl), (Nat.le_of_ble_eq_true rfl)⟩ dX13_init_209 (fun v9 => ?_)
  refine dn_putRF (pc := 211) r0 lRX13_39 rfl rfl dX13_init_211 ?_
  refine dn_aload_n (pc := 214) r0 0 dX13_init_214 rfl ?_
  refine dn_bipush (pc := 215) (v := 12) dX13_init_215 rfl ?_
  refine dn_newaI (pc := 217) 12 rfl ka_int (Nat.le_of_ble_eq_true rfl) ⟨(Nat.le_of_ble_eq_true rfl), (Nat.le_of_ble_eq_true rfl)⟩ dX13_init_217 (fun v10 => ?_)
  refine dn_putRF (pc := 219) r0 lRX13_43 rfl rfl dX13_init_219 ?_
  refine dn_aload_n (pc := 222) r0 0 dX13_init_222 rfl ?_
  refine dn_bipush (pc := 223) (v := 12) dX13_init_223 rfl ?_
  refine dn_newaL (pc := 225) 12 rfl ka_long (Nat.le_of_ble_eq_true rfl) ⟨(Nat.le_of_ble_eq_true rfl), (Nat.le_of_ble_eq_true rfl)⟩ dX13_init_225 (fun v11 => ?_)
  refine dn_putRF (pc := 227) r0 lRX13_46 rfl rfl dX13_init_227 ?_
  refine dn_aload_n (pc := 230) r0 0 dX13_init_230 rfl ?_
  refine dn_bipush (pc := 231) (v := 12) dX13_init_231 rfl ?_
  refine dn_newaD (pc := 233) 12 rfl ka_double (Nat.le_of_ble_eq_true rfl) ⟨(Nat.le_of_ble_eq_true rfl), (Nat.le_of_ble_eq_true rfl)⟩ dX13_init_233 (fun v12 => ?_)
  refine dn_putRF (pc := 235) r0 lRX13_49 rfl rfl dX13_init_235 ?_
  refine dn_aload_n (pc := 238) r0 0 dX13_init_238 rfl ?_
  refine dn_bipush (pc := 239) (v := 6) dX13_init_239 rfl ?_
  refine dn_newaI (pc := 241) 6 rfl ka_int (Nat.le_of_ble_eq_true rfl) ⟨(Nat.le_of_ble_eq_true rfl), (Nat.le_of_ble_eq_true rfl)⟩ dX13_init_241 (fun v13 => ?_)
  refine dn_putRF (pc := 243) r0 lRX13_52 rfl rfl dX13_init_243 ?_
  refine dn_aload_n (pc := 246) r0 0 dX13_init_246 rfl ?_
  refine dn_bipush (pc := 247) (v := 12) dX13_init_247 rfl ?_
  refine dn_newaL (pc := 249) 12 rfl ka_long (Nat.le_of_ble_eq_true rfl) ⟨(Nat.le_of_ble_eq_true rfl), (Nat.le_of_ble_eq_true rfl)⟩ dX13_init_249 (fun v14 => ?_)
  refine dn_putRF (pc := 251) r0 lRX13_55 rfl rfl dX13_init_251 ?_
  refine dn_aload_n (pc := 254) r0 0 dX13_init_254 rfl ?_
  refine dn_bipush (pc := 255) (v := 12) dX13_init_255 rfl ?_
  refine dn_newaI (pc := 257) 12 rfl ka_int (Nat.le_of_ble_eq_true rfl) ⟨(Nat.le_of_ble_eq_true rfl), (Nat.le_of_ble_eq_true rfl)⟩ dX13_init_257 (fun v15 => ?_)
  refine dn_putRF (pc := 259) r0 lRX13_58 rfl rfl dX13_init_259 ?_
  refine dn_aload_n (pc := 262) r0 0 dX13_init_262 rfl ?_
  refine dn_bipush (pc := 263) (v := 12) dX13_init_263 rfl ?_
  refine dn_newaL (pc := 265) 12 rfl ka_long (Nat.le_of_ble_eq_true rfl) ⟨(Nat.le_of_ble_eq_true rfl), (Nat.le_of_ble_eq_true rfl)⟩ dX13_init_265 (fun v16 => ?_)
  refine dn_putRF (pc := 267) r0 lRX13_61 rfl rfl dX13_init_267 ?_
  refine dn_aload_n (pc := 270) r0 0 dX13_init_270 rfl ?_
  refine dn_bipush (pc := 271) (v := 12) dX13_init_271 rfl ?_
  refine dn_newaI (pc := 273) 12 rfl ka_int (Nat.le_of_ble_eq_true rfl) ⟨(Nat.le_of_ble_eq_true rfl), (Nat.le_of_ble_eq_true rfl)⟩ dX13_init_273 (fun v17 => ?_)
  refine dn_putRF (pc := 275) r0 lRX13_64 rfl rfl dX13_init_275 ?_
  refine dn_aload_n (pc := 278) r0 0 dX13_init_278 rfl ?_
  refine dn_bipush (pc := 279) (v := 72) dX13_init_279 rfl ?_
  refine dn_newaI (pc := 281) 72 rfl ka_int (Nat.le_of_ble_eq_true rfl) ⟨(Nat.le_of_ble_eq_true rfl), (Nat.le_of_ble_eq_true rfl)⟩ dX13_init_281 (fun v18 => ?_)
  refine dn_putRF (pc := 283) r0 lRX13_67 rfl rfl dX13_init_283 ?_
  refine dn_aload_n (pc := 286) r0 0 dX13_init_286 rfl ?_
  refine dn_iconst (pc := 287) (v := 3) dX13_init_287 rfl ?_
  refine dn_newaI (pc := 288) 3 rfl ka_int (Nat.le_of_ble_eq_true rfl) ⟨(Nat.le_of_ble_eq_true rfl), (Nat.le_of_ble_eq_true rfl)⟩ dX13_init_288 (fun v19 => ?_)
  refine dn_putRF (pc := 290) r0 lRX13_70 rfl rfl dX13_init_290 ?_
  refine dn_aload_n (pc := 293) r0 0 dX13_init_293 rfl ?_
  refine dn_bipush (pc := 294) (v := 12) dX13_init_294 rfl ?_
  refine dn_newaI (pc := 296) 12 rfl ka_int (Nat.le_of_ble_eq_true rfl) ⟨(Nat.le_of_ble_eq_true rfl), (Nat.le_of_ble_eq_true rfl)⟩ dX13_init_296 (fun v20 => ?_)
  refine dn_putRF (pc := 298) r0 lRX13_73 rfl rfl dX13_init_298 ?_
  refine dn_aload_n (pc := 301) r0 0 dX13_init_301 rfl ?_
  refine dn_bipush (pc := 302) (v := 72) dX13_init_302 rfl ?_
  refine dn_newaI (pc := 304) 72 rfl ka_int (Nat.le_of_ble_eq_true rfl) ⟨(Nat.le_of_ble_eq_true rfl), (Nat.le_of_ble_eq_true rfl)⟩ dX13_init_304 (fun v21 => ?_)
  refine dn_putRF (pc := 306) r0 lRX13_76 rfl rfl dX13_init_306 ?_
  refine dn_aload_n (pc := 309) r0 0 dX13_init_309 rfl ?_
  refine dn_bipush (pc := 310) (v := 96) dX13_init_310 rfl ?_
  refine dn_newaI (pc := 312) 96 rfl ka_int (Nat.le_of_ble_eq_true rfl) ⟨(Nat.le_of_ble_eq_true rfl), (Nat.le_of_ble_eq_true rfl)⟩ dX13_init_312 (fun v22 => ?_)
  refine dn_putRF (pc := 314) r0 lRX13_79 rfl rfl dX13_init_314 ?_
  refine dn_aload_n (pc := 317) r0 0 dX13_init_317 rfl ?_
  refine dn_bipush (pc := 318) (v := 96) dX13_init_318 rfl ?_
  refine dn_newaI (pc := 320) 96 rfl ka_int (Nat.le_of_ble_eq_true rfl) ⟨(Nat.le_of_ble_eq_true rfl), (Nat.le_of_ble_eq_true rfl)⟩ dX13_init_320 (fun v23 => ?_)
  refine dn_putRF (pc := 322) r0 lRX13_82 rfl rfl dX13_init_322 ?_
  refine dn_aload_n (pc := 325) r0 0 dX13_init_325 rfl ?_
  refine dn_sipush (pc := 326) (v := 1152) dX13_init_326 rfl ?_
  refine dn_newaI (pc := 329) 1152 rfl ka_int (Nat.le_of_ble_eq_true rfl) ⟨(Nat.le_of_ble_eq_true rfl), (Nat.le_of_ble_eq_true rfl)⟩ dX13_init_329 (fun v24 => ?_)
  refine dn_putRF (pc := 331) r0 lRX13_85 rfl rfl dX13_init_331 ?_
  refine dn_aload_n (pc := 334) r0 0 dX13_init_334 rfl ?_
  refine dn_sipush (pc := 335) (v := 1152) dX13_init_335 rfl ?_
  refine dn_newaL (pc := 338) 1152 rfl ka_long (Nat.le_of_ble_eq_true rfl) ⟨(Nat.le_of_ble_eq_true rfl), (Nat.le_of_ble_eq_true rfl)⟩ dX13_init_338 (fun v25 => ?_)
  refine dn_putRF (pc := 340) r0 lRX13_88 rfl rfl dX13_init_340 ?_
  refine dn_aload_n (pc := 343) r0 0 dX13_init_343 rfl ?_
  refine dn_sipush (pc := 344) (v := 1152) dX13_init_344 rfl ?_
  refine dn_newaD (pc := 347) 1152 rfl ka_double (Nat.le_of_ble_eq_true rfl) ⟨(Nat.le_of_ble_eq_true rfl), (Nat.le_of_ble_eq_true rfl)⟩ dX13_init_347 (fun v26 => ?_)
  refine dn_putRF (pc := 349) r0 lRX13_91 rfl rfl dX13_init_349 ?_
  refine dn_aload_n (pc := 352) r0 0 dX13_init_352 rfl ?_
  refine dn_bipush (pc := 353) (v := 80) dX13_init_353 rfl ?_
  refine dn_newaI (pc := 355) 80 rfl ka_int (Nat.le_of_ble_eq_true rfl) ⟨(Nat.le_of_ble_eq_true rfl), (Nat.le_of_ble_eq_true rfl)⟩ dX13_init_355 (fun v27 => ?_)
  refine dn_putRF (pc := 357) r0 lRX13_94 rfl rfl dX13_init_357 ?_
  refine dn_aload_n (pc := 360) r0 0 dX13_init_360 rfl ?_
  refine dn_bipush (pc := 361) (v := 8) dX13_init_361 rfl ?_
  refine dn_newaI (pc := 363) 8 rfl ka_int (Nat.le_of_ble_eq_true rfl) ⟨(Nat.le_of_ble_eq_true rfl), (Nat.le_of_ble_eq_true rfl)⟩ dX13_init_363 (fun v28 => ?_)
  refine dn_putRF (pc := 365) r0 lRX13_97 rfl rfl dX13_init_365 ?_
  refine dn_aload_n (pc := 368) r0 0 dX13_init_368 rfl ?_
  refine dn_bipush (pc := 369) (v := 40) dX13_init_369 rfl ?_
  refine dn_newaI (pc := 371) 40 rfl ka_int (Nat.le_of_ble_eq_true rfl) ⟨(Nat.le_of_ble_eq_true rfl), (Nat.le_of_ble_eq_true rfl)⟩ dX13_init_371 (fun v29 => ?_)
  refine dn_putRF (pc := 373) r0 lRX13_100 rfl rfl dX13_init_373 ?_
  refine dn_aload_n (pc := 376) r0 0 dX13_init_376 rfl ?_
  refine dn_bipush (pc := 377) (v := 6) dX13_init_377 rfl ?_
  refine dn_newaI (pc := 379) 6 rfl ka_int (Nat.le_of_ble_eq_true rfl) ⟨(Nat.le_of_ble_eq_true rfl), (Nat.le_of_ble_eq_true rfl)⟩ dX13_init_379 (fun v30 => ?_)
  refine dn_putRF (pc := 381) r0 lRX13_103 rfl rfl dX13_init_381 ?_
  refine dn_aload_n (pc := 384) r0 0 dX13_init_384 rfl ?_
  refine dn_bipush (pc := 385) (v := 6) dX13_init_385 rfl ?_
  refine dn_newaI (pc := 387) 6 rfl ka_int (Nat.le_of_ble_eq_true rfl) ⟨(Nat.le_of_ble_eq_true rfl), (Nat.le_of_ble_eq_true rfl)⟩ dX13_init_387 (fun v31 => ?_)
  refine dn_putRF (pc := 389) r0 lRX13_106 rfl rfl dX13_init_389 ?_
  exact dn_ret (Nat.le_of_ble_eq_true rfl) (Nat.le_of_ble_eq_true rfl) rfl dX13_init_392
