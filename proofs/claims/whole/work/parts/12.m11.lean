abbrev rmX13_write : Room := { frames := 5, cells := 0, slots := 0, locals := 120 }
def fX13_write (r0 : Option Nat) (p1 : Int32) (p2 : Int32) (p3 : Int32) (p4 : Int32) (p5 : Int64) : dnM Int32 :=
  dnB (dnCv r0 11 (fX13_writeDeed r0 p1 p2 p3 p4 p5)) fun v1 =>
  dnB (dnCv r0 11 (fX13_said r0 v1)) fun v2 =>
  dnP v2
abbrev jX13_write (w : dnWd) (x : dnX) (b : Nat) := dnD w x b (fun _ => True) cX13_write RX13 7 rmX13_write "write" eI
set_option maxHeartbeats 4000000 in
set_option maxRecDepth 100000 in
theorem mX13_write (w : dnWd) (x : dnX) (b : Nat) (r0 : Option Nat) (p1 : Int32) (p2 : Int32) (p3 : Int32) (p4 : Int32) (p5 : Int64) : dnMt w x b yX13_write cX13_write 7 (some .int) rmX13_write eI [dnV b r0, .int p1, .int p2, .int p3, .int p4, .long p5] (fX13_write r0 p1 p2 p3 p4 p5) := by
  have hlv : lv_args 0 [dnV b r0, .int p1, .int p2, .int p3, .int p4, .long p5] = [(0, dnV b r0), (1, .int p1), (2, .int p2), (3, .int p3), (4, .int p4), (5, .long p5)] := by cases r0 <;> rfl
  refine dn_mt (by decide +kernel) roI (by cases r0 <;> exact (Nat.le_of_ble_eq_true rfl)) ?_
  rw [hlv]
  refine dn_top ?_
  show jX13_write w x b 0 0 0 _ [] (dnB _ dnP)
  unfold fX13_write
  refine dn_aload_n (pc := 0) r0 0 dX13_write_0 rfl ?_
  refine dn_aload_n (pc := 1) r0 0 dX13_write_1 rfl ?_
  refine dn_iload_n (pc := 2) 1 dX13_write_2 rfl ?_
  refine dn_iload_n (pc := 3) 2 dX13_write_3 rfl ?_
  refine dn_iload_n (pc := 4) 3 dX13_write_4 rfl ?_
  refine dn_iload (pc := 5) 4 dX13_write_5 rfl ?_
  refine dn_lload (pc := 7) 5 dX13_write_7 rfl ?_
  refine dn_callV0I (pc := 9) [.int p1, .int p2, .int p3, .int p4, .long p5] r0 kRX13_257 (mX13_writeDeed w x b r0 p1 p2 p3 p4 p5) rfl rfl (Nat.le_of_ble_eq_true rfl) ⟨(Nat.le_of_ble_eq_true rfl), (Nat.le_of_ble_eq_true rfl)⟩ ⟨rfl, rfl, (Nat.le_of_ble_eq_true rfl), (Nat.le_of_ble_eq_true rfl)⟩ dX13_write_9 (fun v1 => ?_)
  refine dn_callV0I (pc := 12) [.int v1] r0 kRX13_137 (mX13_said w x b r0 v1) rfl rfl (Nat.le_of_ble_eq_true rfl) ⟨(Nat.le_of_ble_eq_true rfl), (Nat.le_of_ble_eq_true rfl)⟩ ⟨rfl, rfl, (Nat.le_of_ble_eq_true rfl), (Nat.le_of_ble_eq_true rfl)⟩ dX13_write_12 (fun v2 => ?_)
  exact dn_ret (Nat.le_of_ble_eq_true rfl) (Nat.le_of_ble_eq_true rfl) rfl dX13_write_15
