/-! CORE 3: the rules, an instruction each -/
section DN
variable {w : dnWd} {x : dnX} {b : Nat} {G : State → Prop} {cc : ByteArray} {own : String} {nL : Nat} {rm : Room} {nm : String} {α β γ : Type} {em : α → Option Value} {pc cells slots : Nat} {lv : List (Nat × Value)} {st : List Value} {F : dnM α}
theorem dn_pure {pc1 : Nat} {st1 : List Value} (hst : ∀ {p : Program} {l : Launch} {e : Env} {s : State} {m : MethodId} {args : Array Value} {below : List Frame} {meth : Method} {c : Code} {H : Heap} {locs : List Loc} {Q : State → Prop} {ls : Array Slot}, p.tables.exec = Jvm.exec → c.code = cc → lv_has ls nL lv → W p l e rm s m args below meth c H locs cells slots Q (F0 m pc1 ls st1) → W p l e rm s m args below meth c H locs cells slots Q (F0 m pc ls st))
    (k : dnD w x b G cc own nL rm nm em pc1 cells slots lv st1 F) : dnD w x b G cc own nL rm nm em pc cells slots lv st F := by
  intro p l e s m args below meth c Q h a h1 H locs ls hC hF hR hS hl hq
  exact hst hC.1 hC.2.1 hl (k p l e s m args below meth c Q h a h1 H locs ls hC hF hR hS hl hq)
theorem dn_word {pc1 : Nat} {st1 : List Value} (wd : Cond) (hwd : wd ∈ lw_ok) (hst : ∀ {p : Program} {l : Launch} {e : Env} {s : State} {m : MethodId} {args : Array Value} {below : List Frame} {meth : Method} {c : Code} {H : Heap} {locs : List Loc} {Q : State → Prop} {ls : Array Slot}, p.tables.exec = Jvm.exec → c.code = cc → s.vm.findClass own = some m.cls → wd.before args s = true → W p l e rm s m args below meth c H locs cells slots Q (F0 m pc1 ls st1) → W p l e rm s m args below meth c H locs cells slots Q (F0 m pc ls st))
    (k : dnD w x b G cc own nL rm nm em pc1 cells slots lv st1 F) : dnD w x b G cc own nL rm nm em pc cells slots lv st F := by
  intro p l e s m args below meth c Q h a h1 H locs ls hC hF hR hS hl hq
  exact hst hC.1 hC.2.1 hC.2.2.2.1 (hC.2.2.2.2.1 wd hwd) (k p l e s m args below meth c Q h a h1 H locs ls hC hF hR hS hl hq)
theorem dn_top {F : dnM α} (k : dnD w x b G cc own nL rm nm em pc cells slots lv st (dnB F dnP)) : dnD w x b G cc own nL rm nm em pc cells slots lv st F := by
  rw [dnB_id] at k
  exact k
theorem dn_eqF {F2 : dnM α} (e : F = F2) (k : dnD w x b G cc own nL rm nm em pc cells slots lv st F2) : dnD w x b G cc own nL rm nm em pc cells slots lv st F := e ▸ k
theorem dn_lv {lv2 : List (Nat × Value)} (ks : List Nat) (hk : lv_pick lv ks = lv2) (k : dnD w x b G cc own nL rm nm em pc cells slots lv2 st F) : dnD w x b G cc own nL rm nm em pc cells slots lv st F := by
  intro p l e s m args below meth c Q h a h1 H locs ls hC hF hR hS hl hq
  exact k p l e s m args below meth c Q h a h1 H locs ls hC hF hR hS (lv_sub hl ks hk) hq
theorem dn_cat (b : Nat) (r : Option Nat) : (dnV b r).category = 1 := by cases r <;> rfl
theorem dn_widen {cells2 slots2 : Nat} (h1 : cells ≤ cells2) (h2 : slots ≤ slots2) (k : dnD w x b G cc own nL rm nm em pc cells2 slots2 lv st F) : dnD w x b G cc own nL rm nm em pc cells slots lv st F := by
  intro p l e s m args below meth c Q h a h3 H locs ls hC hF hR hS hl hq
  exact W.widen h1 h2 (k p l e s m args below meth c Q h a h3 H locs ls hC hF hR hS hl hq)
theorem dn_leaf {a : β} {g : β → dnM α} (k : dnD w x b G cc own nL rm nm em pc cells slots lv st (g a)) : dnD w x b G cc own nL rm nm em pc cells slots lv st (dnB (dnP a) g) := k
theorem dn_iconst {n : Int} {v : Int32} (hdg : decode cc pc = .ok (.iconst n, 1)) (hv : Int32.ofInt n = v) (k : dnD w x b G cc own nL rm nm em (pc + 1) cells slots lv (.int v :: st) F) : dnD w x b G cc own nL rm nm em pc cells slots lv (st) F := dn_pure (fun hx hb _ kk => lv_iconst hx hb hdg hv kk) k
theorem dn_bipush {n : Int} {v : Int32} (hdg : decode cc pc = .ok (.bipush n, 2)) (hv : (Int8.ofInt n).toInt32 = v) (k : dnD w x b G cc own nL rm nm em (pc + 2) cells slots lv (.int v :: st) F) : dnD w x b G cc own nL rm nm em pc cells slots lv (st) F := dn_pure (fun hx hb _ kk => lv_bipush hx hb hdg hv kk) k
theorem dn_sipush {n : Int} {v : Int32} (hdg : decode cc pc = .ok (.sipush n, 3)) (hv : (Int16.ofInt n).toInt32 = v) (k : dnD w x b G cc own nL rm nm em (pc + 3) cells slots lv (.int v :: st) F) : dnD w x b G cc own nL rm nm em pc cells slots lv (st) F := dn_pure (fun hx hb _ kk => lv_sipush hx hb hdg hv kk) k
theorem dn_lconst {n : Fin 2} {v : Int64} (hdg : decode cc pc = .ok (.lconst n, 1)) (hv : Int64.ofNat (n : Nat) = v) (k : dnD w x b G cc own nL rm nm em (pc + 1) cells slots lv (.long v :: st) F) : dnD w x b G cc own nL rm nm em pc cells slots lv (st) F := dn_pure (fun hx hb _ kk => lv_lconst hx hb hdg hv kk) k
theorem dn_dconst0  (hdg : decode cc pc = .ok (.dconst 0, 1))  (k : dnD w x b G cc own nL rm nm em (pc + 1) cells slots lv (.double FP.dconst0 :: st) F) : dnD w x b G cc own nL rm nm em pc cells slots lv (st) F := dn_pure (fun hx hb _ kk => lv_dconst0 hx hb hdg  kk) k
theorem dn_iadd {x1 y1 : Int32} (hdg : decode cc pc = .ok (.iadd, 1))  (k : dnD w x b G cc own nL rm nm em (pc + 1) cells slots lv (.int (x1 + y1) :: st) F) : dnD w x b G cc own nL rm nm em pc cells slots lv (.int y1 :: .int x1 :: st) F := dn_pure (fun hx hb _ kk => lv_iadd hx hb hdg  kk) k
theorem dn_isub {x1 y1 : Int32} (hdg : decode cc pc = .ok (.isub, 1))  (k : dnD w x b G cc own nL rm nm em (pc + 1) cells slots lv (.int (x1 - y1) :: st) F) : dnD w x b G cc own nL rm nm em pc cells slots lv (.int y1 :: .int x1 :: st) F := dn_pure (fun hx hb _ kk => lv_isub hx hb hdg  kk) k
theorem dn_imul {x1 y1 : Int32} (hdg : decode cc pc = .ok (.imul, 1))  (k : dnD w x b G cc own nL rm nm em (pc + 1) cells slots lv (.int (x1 * y1) :: st) F) : dnD w x b G cc own nL rm nm em pc cells slots lv (.int y1 :: .int x1 :: st) F := dn_pure (fun hx hb _ kk => lv_imul hx hb hdg  kk) k
theorem dn_iand {x1 y1 : Int32} (hdg : decode cc pc = .ok (.iand, 1))  (k : dnD w x b G cc own nL rm nm em (pc + 1) cells slots lv (.int (x1 &&& y1) :: st) F) : dnD w x b G cc own nL rm nm em pc cells slots lv (.int y1 :: .int x1 :: st) F := dn_pure (fun hx hb _ kk => lv_iand hx hb hdg  kk) k
theorem dn_ior {x1 y1 : Int32} (hdg : decode cc pc = .ok (.ior, 1))  (k : dnD w x b G cc own nL rm nm em (pc + 1) cells slots lv (.int (x1 ||| y1) :: st) F) : dnD w x b G cc own nL rm nm em pc cells slots lv (.int y1 :: .int x1 :: st) F := dn_pure (fun hx hb _ kk => lv_ior hx hb hdg  kk) k
theorem dn_ixor {x1 y1 : Int32} (hdg : decode cc pc = .ok (.ixor, 1))  (k : dnD w x b G cc own nL rm nm em (pc + 1) cells slots lv (.int (x1 ^^^ y1) :: st) F) : dnD w x b G cc own nL rm nm em pc cells slots lv (.int y1 :: .int x1 :: st) F := dn_pure (fun hx hb _ kk => lv_ixor hx hb hdg  kk) k
theorem dn_ladd {x1 y1 : Int64} (hdg : decode cc pc = .ok (.ladd, 1))  (k : dnD w x b G cc own nL rm nm em (pc + 1) cells slots lv (.long (x1 + y1) :: st) F) : dnD w x b G cc own nL rm nm em pc cells slots lv (.long y1 :: .long x1 :: st) F := dn_pure (fun hx hb _ kk => lv_ladd hx hb hdg  kk) k
theorem dn_lsub {x1 y1 : Int64} (hdg : decode cc pc = .ok (.lsub, 1))  (k : dnD w x b G cc own nL rm nm em (pc + 1) cells slots lv (.long (x1 - y1) :: st) F) : dnD w x b G cc own nL rm nm em pc cells slots lv (.long y1 :: .long x1 :: st) F := dn_pure (fun hx hb _ kk => lv_lsub hx hb hdg  kk) k
theorem dn_lmul {x1 y1 : Int64} (hdg : decode cc pc = .ok (.lmul, 1))  (k : dnD w x b G cc own nL rm nm em (pc + 1) cells slots lv (.long (x1 * y1) :: st) F) : dnD w x b G cc own nL rm nm em pc cells slots lv (.long y1 :: .long x1 :: st) F := dn_pure (fun hx hb _ kk => lv_lmul hx hb hdg  kk) k
theorem dn_land {x1 y1 : Int64} (hdg : decode cc pc = .ok (.land, 1))  (k : dnD w x b G cc own nL rm nm em (pc + 1) cells slots lv (.long (x1 &&& y1) :: st) F) : dnD w x b G cc own nL rm nm em pc cells slots lv (.long y1 :: .long x1 :: st) F := dn_pure (fun hx hb _ kk => lv_land hx hb hdg  kk) k
theorem dn_lor {x1 y1 : Int64} (hdg : decode cc pc = .ok (.lor, 1))  (k : dnD w x b G cc own nL rm nm em (pc + 1) cells slots lv (.long (x1 ||| y1) :: st) F) : dnD w x b G cc own nL rm nm em pc cells slots lv (.long y1 :: .long x1 :: st) F := dn_pure (fun hx hb _ kk => lv_lor hx hb hdg  kk) k
theorem dn_lxor {x1 y1 : Int64} (hdg : decode cc pc = .ok (.lxor, 1))  (k : dnD w x b G cc own nL rm nm em (pc + 1) cells slots lv (.long (x1 ^^^ y1) :: st) F) : dnD w x b G cc own nL rm nm em pc cells slots lv (.long y1 :: .long x1 :: st) F := dn_pure (fun hx hb _ kk => lv_lxor hx hb hdg  kk) k
theorem dn_ineg {x1 : Int32} (hdg : decode cc pc = .ok (.ineg, 1))  (k : dnD w x b G cc own nL rm nm em (pc + 1) cells slots lv (.int (-x1) :: st) F) : dnD w x b G cc own nL rm nm em pc cells slots lv (.int x1 :: st) F := dn_pure (fun hx hb _ kk => lv_ineg hx hb hdg  kk) k
theorem dn_ishl {x1 y1 : Int32} (hdg : decode cc pc = .ok (.ishl, 1))  (k : dnD w x b G cc own nL rm nm em (pc + 1) cells slots lv (.int (x1 <<< (y1 &&& 31)) :: st) F) : dnD w x b G cc own nL rm nm em pc cells slots lv (.int y1 :: .int x1 :: st) F := dn_pure (fun hx hb _ kk => lv_ishl hx hb hdg  kk) k
theorem dn_ishr {x1 y1 : Int32} (hdg : decode cc pc = .ok (.ishr, 1))  (k : dnD w x b G cc own nL rm nm em (pc + 1) cells slots lv (.int (x1 >>> (y1 &&& 31)) :: st) F) : dnD w x b G cc own nL rm nm em pc cells slots lv (.int y1 :: .int x1 :: st) F := dn_pure (fun hx hb _ kk => lv_ishr hx hb hdg  kk) k
theorem dn_iushr {x1 y1 : Int32} (hdg : decode cc pc = .ok (.iushr, 1))  (k : dnD w x b G cc own nL rm nm em (pc + 1) cells slots lv (.int (x1.toUInt32 >>> (y1.toUInt32 &&& Int32.toUInt32 31)).toInt32 :: st) F) : dnD w x b G cc own nL rm nm em pc cells slots lv (.int y1 :: .int x1 :: st) F := dn_pure (fun hx hb _ kk => lv_iushr hx hb hdg rfl kk) k
theorem dn_lshl {x1 : Int64} {y1 : Int32} (hdg : decode cc pc = .ok (.lshl, 1))  (k : dnD w x b G cc own nL rm nm em (pc + 1) cells slots lv (.long (x1 <<< (y1.toInt64 &&& 63)) :: st) F) : dnD w x b G cc own nL rm nm em pc cells slots lv (.int y1 :: .long x1 :: st) F := dn_pure (fun hx hb _ kk => lv_lshl hx hb hdg rfl kk) k
theorem dn_i2l {x1 : Int32} (hdg : decode cc pc = .ok (.i2l, 1))  (k : dnD w x b G cc own nL rm nm em (pc + 1) cells slots lv (.long x1.toInt64 :: st) F) : dnD w x b G cc own nL rm nm em pc cells slots lv (.int x1 :: st) F := dn_pure (fun hx hb _ kk => lv_i2l hx hb hdg rfl kk) k
theorem dn_l2i {x1 : Int64} (hdg : decode cc pc = .ok (.l2i, 1))  (k : dnD w x b G cc own nL rm nm em (pc + 1) cells slots lv (.int x1.toInt32 :: st) F) : dnD w x b G cc own nL rm nm em pc cells slots lv (.long x1 :: st) F := dn_pure (fun hx hb _ kk => lv_l2i hx hb hdg rfl kk) k
theorem dn_i2b {x1 : Int32} (hdg : decode cc pc = .ok (.i2b, 1))  (k : dnD w x b G cc own nL rm nm em (pc + 1) cells slots lv (.int x1.toInt8.toInt32 :: st) F) : dnD w x b G cc own nL rm nm em pc cells slots lv (.int x1 :: st) F := dn_pure (fun hx hb _ kk => lv_i2b hx hb hdg rfl kk) k
theorem dn_i2s {x1 : Int32} (hdg : decode cc pc = .ok (.i2s, 1))  (k : dnD w x b G cc own nL rm nm em (pc + 1) cells slots lv (.int x1.toInt16.toInt32 :: st) F) : dnD w x b G cc own nL rm nm em pc cells slots lv (.int x1 :: st) F := dn_pure (fun hx hb _ kk => lv_i2s hx hb hdg rfl kk) k
theorem dn_i2c {x1 : Int32} (hdg : decode cc pc = .ok (.i2c, 1))  (k : dnD w x b G cc own nL rm nm em (pc + 1) cells slots lv (.int (x1.toUInt32 % 65536).toInt32 :: st) F) : dnD w x b G cc own nL rm nm em pc cells slots lv (.int x1 :: st) F := dn_pure (fun hx hb _ kk => lv_i2c hx hb hdg rfl kk) k
theorem dn_lcmp {x1 y1 : Int64} (hdg : decode cc pc = .ok (.lcmp, 1))  (k : dnD w x b G cc own nL rm nm em (pc + 1) cells slots lv (.int (lg_cmp x1 y1) :: st) F) : dnD w x b G cc own nL rm nm em pc cells slots lv (.long y1 :: .long x1 :: st) F := dn_pure (fun hx hb _ kk => W.lcmp hx hb hdg  kk) k
theorem dn_dcmp {x1 y1 : UInt64} {op : CmpOp} (hdg : decode cc pc = .ok (.dcmp op, 1))  (k : dnD w x b G cc own nL rm nm em (pc + 1) cells slots lv (.int (Op.cmpValue (FP.dcmp x1 y1) op) :: st) F) : dnD w x b G cc own nL rm nm em pc cells slots lv (.double y1 :: .double x1 :: st) F := dn_pure (fun hx hb _ kk => lv_dcmp hx hb hdg  kk) k
theorem dn_l2f {x1 : Int64} (hdg : decode cc pc = .ok (.l2f, 1))  (k : dnD w x b G cc own nL rm nm em (pc + 1) cells slots lv (.float (FP.l2f x1) :: st) F) : dnD w x b G cc own nL rm nm em pc cells slots lv (.long x1 :: st) F := dn_pure (fun hx hb _ kk => lv_l2f hx hb hdg  kk) k
theorem dn_l2d {x1 : Int64} (hdg : decode cc pc = .ok (.l2d, 1))  (k : dnD w x b G cc own nL rm nm em (pc + 1) cells slots lv (.double (FP.l2d x1) :: st) F) : dnD w x b G cc own nL rm nm em pc cells slots lv (.long x1 :: st) F := dn_pure (fun hx hb _ kk => lv_l2d hx hb hdg  kk) k
theorem dn_d2l {x1 : UInt64} (hdg : decode cc pc = .ok (.d2l, 1))  (k : dnD w x b G cc own nL rm nm em (pc + 1) cells slots lv (.long (FP.d2l x1) :: st) F) : dnD w x b G cc own nL rm nm em pc cells slots lv (.double x1 :: st) F := dn_pure (fun hx hb _ kk => lv_d2l hx hb hdg  kk) k
theorem dn_dup {va : Value} (hdg : decode cc pc = .ok (.dup, 1)) (hva : va.category = 1) (k : dnD w x b G cc own nL rm nm em (pc + 1) cells slots lv (va :: va :: st) F) : dnD w x b G cc own nL rm nm em pc cells slots lv (va :: st) F := dn_pure (fun hx hb _ kk => lv_dup hx hb hdg hva kk) k
theorem dn_pop {va : Value} (hdg : decode cc pc = .ok (.pop, 1)) (hva : va.category = 1) (k : dnD w x b G cc own nL rm nm em (pc + 1) cells slots lv (st) F) : dnD w x b G cc own nL rm nm em pc cells slots lv (va :: st) F := dn_pure (fun hx hb _ kk => lv_pop hx hb hdg hva kk) k
theorem dn_dup2_11 {va vb : Value} (hdg : decode cc pc = .ok (.dup2, 1)) (hva : va.category = 1) (hvb : vb.category = 1) (k : dnD w x b G cc own nL rm nm em (pc + 1) cells slots lv (va :: vb :: va :: vb :: st) F) : dnD w x b G cc own nL rm nm em pc cells slots lv (va :: vb :: st) F := dn_pure (fun hx hb _ kk => lv_dup2_11 hx hb hdg hva hvb kk) k
theorem dn_null (hdg : decode cc pc = .ok (.aconst_null, 1)) (k : dnD w x b G cc own nL rm nm em (pc + 1) cells slots lv (dnV b none :: st) F) : dnD w x b G cc own nL rm nm em pc cells slots lv st F := dn_pure (fun hx hb _ kk => lv_null hx hb hdg kk) k
theorem dn_goto {off : Int} (tgt : Nat) (hdg : decode cc pc = .ok (.goto off, 3)) (ht : (pc : Int) + off = (tgt : Int)) (k : dnD w x b G cc own nL rm nm em tgt cells slots lv st F) : dnD w x b G cc own nL rm nm em pc cells slots lv st F := dn_pure (fun hx hb _ kk => lv_goto hx hb hdg ht kk) k
theorem dn_iload {i : Nat} {v1 : Int32} (j : Nat) (hdg : decode cc pc = .ok (.iload i, 2)) (hj : lv[j]? = some (i, .int v1)) (k : dnD w x b G cc own nL rm nm em (pc + 2) cells slots lv (.int v1 :: st) F) : dnD w x b G cc own nL rm nm em pc cells slots lv st F := dn_pure (fun hx hb hl kk => lv_iload hx hb hdg (lv_at hl j hj) kk) k
theorem dn_iload_n {i : Fin 4} {v1 : Int32} (j : Nat) (hdg : decode cc pc = .ok (.iload_n i, 1)) (hj : lv[j]? = some ((i : Nat), .int v1)) (k : dnD w x b G cc own nL rm nm em (pc + 1) cells slots lv (.int v1 :: st) F) : dnD w x b G cc own nL rm nm em pc cells slots lv st F := dn_pure (fun hx hb hl kk => lv_iload_n hx hb hdg rfl (lv_at hl j hj) kk) k
theorem dn_lload {i : Nat} {v1 : Int64} (j : Nat) (hdg : decode cc pc = .ok (.lload i, 2)) (hj : lv[j]? = some (i, .long v1)) (k : dnD w x b G cc own nL rm nm em (pc + 2) cells slots lv (.long v1 :: st) F) : dnD w x b G cc own nL rm nm em pc cells slots lv st F := dn_pure (fun hx hb hl kk => lv_lload hx hb hdg (lv_at hl j hj) kk) k
theorem dn_lload_n {i : Fin 4} {v1 : Int64} (j : Nat) (hdg : decode cc pc = .ok (.lload_n i, 1)) (hj : lv[j]? = some ((i : Nat), .long v1)) (k : dnD w x b G cc own nL rm nm em (pc + 1) cells slots lv (.long v1 :: st) F) : dnD w x b G cc own nL rm nm em pc cells slots lv st F := dn_pure (fun hx hb hl kk => lv_lload_n hx hb hdg rfl (lv_at hl j hj) kk) k
theorem dn_dload {i : Nat} {v1 : UInt64} (j : Nat) (hdg : decode cc pc = .ok (.dload i, 2)) (hj : lv[j]? = some (i, .double v1)) (k : dnD w x b G cc own nL rm nm em (pc + 2) cells slots lv (.double v1 :: st) F) : dnD w x b G cc own nL rm nm em pc cells slots lv st F := dn_pure (fun hx hb hl kk => lv_dload hx hb hdg (lv_at hl j hj) kk) k
theorem dn_dload_n {i : Fin 4} {v1 : UInt64} (j : Nat) (hdg : decode cc pc = .ok (.dload_n i, 1)) (hj : lv[j]? = some ((i : Nat), .double v1)) (k : dnD w x b G cc own nL rm nm em (pc + 1) cells slots lv (.double v1 :: st) F) : dnD w x b G cc own nL rm nm em pc cells slots lv st F := dn_pure (fun hx hb hl kk => lv_dload_n hx hb hdg rfl (lv_at hl j hj) kk) k
theorem dn_fload {i : Nat} {v1 : UInt32} (j : Nat) (hdg : decode cc pc = .ok (.fload i, 2)) (hj : lv[j]? = some (i, .float v1)) (k : dnD w x b G cc own nL rm nm em (pc + 2) cells slots lv (.float v1 :: st) F) : dnD w x b G cc own nL rm nm em pc cells slots lv st F := dn_pure (fun hx hb hl kk => lv_fload hx hb hdg (lv_at hl j hj) kk) k
theorem dn_fload_n {i : Fin 4} {v1 : UInt32} (j : Nat) (hdg : decode cc pc = .ok (.fload_n i, 1)) (hj : lv[j]? = some ((i : Nat), .float v1)) (k : dnD w x b G cc own nL rm nm em (pc + 1) cells slots lv (.float v1 :: st) F) : dnD w x b G cc own nL rm nm em pc cells slots lv st F := dn_pure (fun hx hb hl kk => lv_fload_n hx hb hdg rfl (lv_at hl j hj) kk) k
theorem dn_aload {i : Nat} (r : Option Nat) (j : Nat) (hdg : decode cc pc = .ok (.aload i, 2)) (hj : lv[j]? = some (i, dnV b r)) (k : dnD w x b G cc own nL rm nm em (pc + 2) cells slots lv (dnV b r :: st) F) : dnD w x b G cc own nL rm nm em pc cells slots lv st F := by
  cases r with
  | none => exact dn_pure (fun hx hb hl kk => lv_aloadN hx hb hdg (lv_at hl j hj) kk) k
  | some a => exact dn_pure (fun hx hb hl kk => lv_aload hx hb hdg (lv_at hl j hj) kk) k
theorem dn_aload_n {i : Fin 4} (r : Option Nat) (j : Nat) (hdg : decode cc pc = .ok (.aload_n i, 1)) (hj : lv[j]? = some ((i : Nat), dnV b r)) (k : dnD w x b G cc own nL rm nm em (pc + 1) cells slots lv (dnV b r :: st) F) : dnD w x b G cc own nL rm nm em pc cells slots lv st F := by
  cases r with
  | none => exact dn_pure (fun hx hb hl kk => lv_aload_nN hx hb hdg rfl (lv_at hl j hj) kk) k
  | some a => exact dn_pure (fun hx hb hl kk => lv_aload_n hx hb hdg rfl (lv_at hl j hj) kk) k
/-- a reference from outside -/
theorem dn_aloadX {i : Nat} {a : Nat} (j : Nat) (hdg : decode cc pc = .ok (.aload i, 2)) (hj : lv[j]? = some (i, .ref a)) (k : dnD w x b G cc own nL rm nm em (pc + 2) cells slots lv (.ref a :: st) F) : dnD w x b G cc own nL rm nm em pc cells slots lv st F := dn_pure (fun hx hb hl kk => lv_aload hx hb hdg (lv_at hl j hj) kk) k
theorem dn_aloadX_n {i : Fin 4} {a : Nat} (j : Nat) (hdg : decode cc pc = .ok (.aload_n i, 1)) (hj : lv[j]? = some ((i : Nat), .ref a)) (k : dnD w x b G cc own nL rm nm em (pc + 1) cells slots lv (.ref a :: st) F) : dnD w x b G cc own nL rm nm em pc cells slots lv st F := dn_pure (fun hx hb hl kk => lv_aload_n hx hb hdg rfl (lv_at hl j hj) kk) k
/-- what is kept of the locals when the local i (of wd words) is written: by places -/
def dnKp (i wd : Nat) (lv lv2 : List (Nat × Value)) : Prop := ∀ q ∈ lv2, q ∈ lv ∧ q.1 ≠ i ∧ (wd = 2 → q.1 ≠ i + 1) ∧ (q.1 + 1 = i → q.2.category = 1)
def dnIx (i wd j : Nat) : Bool := !(j == i) && (!(j + 1 == i) && !(wd == 2 && j == i + 1))
theorem dnKp_of {i wd : Nat} {lv lv2 : List (Nat × Value)} (ks : List Nat) (hk : lv_pick lv ks = lv2) (hi : (lv2.map (·.1)).all (dnIx i wd) = true) : dnKp i wd lv lv2 := by
  intro q hq
  have h1 := List.all_eq_true.mp hi q.1 (List.mem_map_of_mem hq)
  simp only [dnIx, Bool.and_eq_true, Bool.not_eq_true', beq_eq_false_iff_ne, Bool.and_eq_false_iff] at h1
  obtain ⟨h2, h3, h4⟩ := h1
  rw [← hk] at hq
  obtain ⟨k, -, hk2⟩ := List.mem_filterMap.mp hq
  refine ⟨List.mem_of_getElem? hk2, h2, fun e => ?_, fun e => absurd e h3⟩
  rcases h4 with h4 | h4
  · exact absurd e h4
  · exact h4
theorem dnKp_nb {i wd j : Nat} {v : Value} {lv lv2 : List (Nat × Value)} (n : Nat) (hn : lv[n]? = some (j, v)) (hv : v.category = 1) (hj : j + 1 = i) (h : dnKp i wd lv lv2) : dnKp i wd lv ((j, v) :: lv2) := by
  intro q hq
  rcases List.mem_cons.mp hq with rfl | hq
  · exact ⟨List.mem_of_getElem? hn, fun e => by dsimp only at e; omega, fun _ e => by dsimp only at e; omega, fun _ => hv⟩
  · exact h q hq
theorem dnKp_has1 {i : Nat} {v : Value} {lv lv2 : List (Nat × Value)} {ls : Array Slot} {nL : Nat} (hk : dnKp i 1 lv lv2) (h : lv_has ls nL ((i, v) :: lv.filter (fun q => !(q.1 == i) && !(q.1 + 1 == i && q.2.category == 2)))) : lv_has ls nL ((i, v) :: lv2) := by
  refine ⟨h.1, h.2.1, fun q hq => ?_⟩
  rcases List.mem_cons.mp hq with rfl | hq
  · exact h.2.2 _ List.mem_cons_self
  · obtain ⟨h1, h2, -, h4⟩ := hk q hq
    refine h.2.2 _ (List.mem_cons_of_mem _ (List.mem_filter.mpr ⟨h1, ?_⟩))
    simp only [Bool.and_eq_true, Bool.not_eq_true', beq_eq_false_iff_ne, Bool.and_eq_false_iff]
    refine ⟨h2, ?_⟩
    by_cases e : q.1 + 1 = i
    · right
      rw [h4 e]
      decide
    · exact Or.inl e
theorem dnKp_has2 {i : Nat} {v : Value} {lv lv2 : List (Nat × Value)} {ls : Array Slot} {nL : Nat} (hk : dnKp i 2 lv lv2) (h : lv_has ls nL ((i, v) :: lv.filter (fun q => !(q.1 == i) && (!(q.1 == i + 1) && !(q.1 + 1 == i && q.2.category == 2))))) : lv_has ls nL ((i, v) :: lv2) := by
  refine ⟨h.1, h.2.1, fun q hq => ?_⟩
  rcases List.mem_cons.mp hq with rfl | hq
  · exact h.2.2 _ List.mem_cons_self
  · obtain ⟨h1, h2, h3, h4⟩ := hk q hq
    refine h.2.2 _ (List.mem_cons_of_mem _ (List.mem_filter.mpr ⟨h1, ?_⟩))
    simp only [Bool.and_eq_true, Bool.not_eq_true', beq_eq_false_iff_ne, Bool.and_eq_false_iff]
    refine ⟨h2, h3 rfl, ?_⟩
    by_cases e : q.1 + 1 = i
    · right
      rw [h4 e]
      decide
    · exact Or.inl e
theorem dn_sto {pc1 i : Nat} {v : Value} {st1 : List Value} {lv2 : List (Nat × Value)} (hst : ∀ {p : Program} {l : Launch} {e : Env} {s : State} {m : MethodId} {args : Array Value} {below : List Frame} {meth : Method} {c : Code} {H : Heap} {locs : List Loc} {Q : State → Prop} {ls : Array Slot}, p.tables.exec = Jvm.exec → c.code = cc → lv_has ls nL lv → (∀ ls2 : Array Slot, lv_has ls2 nL ((i, v) :: lv2) → W p l e rm s m args below meth c H locs cells slots Q (F0 m pc1 ls2 st1)) → W p l e rm s m args below meth c H locs cells slots Q (F0 m pc ls st))
    (k : dnD w x b G cc own nL rm nm em pc1 cells slots ((i, v) :: lv2) st1 F) : dnD w x b G cc own nL rm nm em pc cells slots lv st F := by
  intro p l e s m args below meth c Q h a h1 H locs ls hC hF hR hS hl hq
  exact hst hC.1 hC.2.1 hl (fun ls2 hl2 => k p l e s m args below meth c Q h a h1 H locs ls2 hC hF hR hS hl2 hq)
theorem dn_istore {i : Nat} {v1 : Int32} {lv2 : List (Nat × Value)} (hdg : decode cc pc = .ok (.istore i, 2)) (hn : i < nL) (hk : dnKp i 1 lv lv2) (k : dnD w x b G cc own nL rm nm em (pc + 2) cells slots ((i, .int v1) :: lv2) st F) : dnD w x b G cc own nL rm nm em pc cells slots lv (.int v1 :: st) F := dn_sto (fun hx hb hl kk => lv_istore hx hb hdg hl hn rfl (fun ls2 h2 => kk ls2 (dnKp_has1 hk h2))) k
theorem dn_istore_n {i : Fin 4} {v1 : Int32} {lv2 : List (Nat × Value)} (hdg : decode cc pc = .ok (.istore_n i, 1)) (hn : (i : Nat) < nL) (hk : dnKp i 1 lv lv2) (k : dnD w x b G cc own nL rm nm em (pc + 1) cells slots (((i : Nat), .int v1) :: lv2) st F) : dnD w x b G cc own nL rm nm em pc cells slots lv (.int v1 :: st) F := dn_sto (fun hx hb hl kk => lv_istore_n hx hb hdg rfl hl hn rfl (fun ls2 h2 => kk ls2 (dnKp_has1 hk h2))) k
theorem dn_lstore {i : Nat} {v1 : Int64} {lv2 : List (Nat × Value)} (hdg : decode cc pc = .ok (.lstore i, 2)) (hn : i + 1 < nL) (hk : dnKp i 2 lv lv2) (k : dnD w x b G cc own nL rm nm em (pc + 2) cells slots ((i, .long v1) :: lv2) st F) : dnD w x b G cc own nL rm nm em pc cells slots lv (.long v1 :: st) F := dn_sto (fun hx hb hl kk => lv_lstore hx hb hdg hl hn rfl (fun ls2 h2 => kk ls2 (dnKp_has2 hk h2))) k
theorem dn_lstore_n {i : Fin 4} {v1 : Int64} {lv2 : List (Nat × Value)} (hdg : decode cc pc = .ok (.lstore_n i, 1)) (hn : (i : Nat) + 1 < nL) (hk : dnKp i 2 lv lv2) (k : dnD w x b G cc own nL rm nm em (pc + 1) cells slots (((i : Nat), .long v1) :: lv2) st F) : dnD w x b G cc own nL rm nm em pc cells slots lv (.long v1 :: st) F := dn_sto (fun hx hb hl kk => lv_lstore_n hx hb hdg rfl hl hn rfl (fun ls2 h2 => kk ls2 (dnKp_has2 hk h2))) k
theorem dn_dstore {i : Nat} {v1 : UInt64} {lv2 : List (Nat × Value)} (hdg : decode cc pc = .ok (.dstore i, 2)) (hn : i + 1 < nL) (hk : dnKp i 2 lv lv2) (k : dnD w x b G cc own nL rm nm em (pc + 2) cells slots ((i, .double v1) :: lv2) st F) : dnD w x b G cc own nL rm nm em pc cells slots lv (.double v1 :: st) F := dn_sto (fun hx hb hl kk => lv_dstore hx hb hdg hl hn rfl (fun ls2 h2 => kk ls2 (dnKp_has2 hk h2))) k
theorem dn_dstore_n {i : Fin 4} {v1 : UInt64} {lv2 : List (Nat × Value)} (hdg : decode cc pc = .ok (.dstore_n i, 1)) (hn : (i : Nat) + 1 < nL) (hk : dnKp i 2 lv lv2) (k : dnD w x b G cc own nL rm nm em (pc + 1) cells slots (((i : Nat), .double v1) :: lv2) st F) : dnD w x b G cc own nL rm nm em pc cells slots lv (.double v1 :: st) F := dn_sto (fun hx hb hl kk => lv_dstore_n hx hb hdg rfl hl hn rfl (fun ls2 h2 => kk ls2 (dnKp_has2 hk h2))) k
theorem dn_fstore {i : Nat} {v1 : UInt32} {lv2 : List (Nat × Value)} (hdg : decode cc pc = .ok (.fstore i, 2)) (hn : i < nL) (hk : dnKp i 1 lv lv2) (k : dnD w x b G cc own nL rm nm em (pc + 2) cells slots ((i, .float v1) :: lv2) st F) : dnD w x b G cc own nL rm nm em pc cells slots lv (.float v1 :: st) F := dn_sto (fun hx hb hl kk => lv_fstore hx hb hdg hl hn rfl (fun ls2 h2 => kk ls2 (dnKp_has1 hk h2))) k
theorem dn_fstore_n {i : Fin 4} {v1 : UInt32} {lv2 : List (Nat × Value)} (hdg : decode cc pc = .ok (.fstore_n i, 1)) (hn : (i : Nat) < nL) (hk : dnKp i 1 lv lv2) (k : dnD w x b G cc own nL rm nm em (pc + 1) cells slots (((i : Nat), .float v1) :: lv2) st F) : dnD w x b G cc own nL rm nm em pc cells slots lv (.float v1 :: st) F := dn_sto (fun hx hb hl kk => lv_fstore_n hx hb hdg rfl hl hn rfl (fun ls2 h2 => kk ls2 (dnKp_has1 hk h2))) k
theorem dn_astore {i : Nat} (r : Option Nat) {lv2 : List (Nat × Value)} (hdg : decode cc pc = .ok (.astore i, 2)) (hn : i < nL) (hk : dnKp i 1 lv lv2) (k : dnD w x b G cc own nL rm nm em (pc + 2) cells slots ((i, dnV b r) :: lv2) st F) : dnD w x b G cc own nL rm nm em pc cells slots lv (dnV b r :: st) F := by
  cases r with
  | none => exact dn_sto (fun hx hb hl kk => lv_astoreN hx hb hdg hl hn rfl (fun ls2 h2 => kk ls2 (dnKp_has1 hk h2))) k
  | some a => exact dn_sto (fun hx hb hl kk => lv_astore hx hb hdg hl hn rfl (fun ls2 h2 => kk ls2 (dnKp_has1 hk h2))) k
theorem dn_astore_n {i : Fin 4} (r : Option Nat) {lv2 : List (Nat × Value)} (hdg : decode cc pc = .ok (.astore_n i, 1)) (hn : (i : Nat) < nL) (hk : dnKp i 1 lv lv2) (k : dnD w x b G cc own nL rm nm em (pc + 1) cells slots (((i : Nat), dnV b r) :: lv2) st F) : dnD w x b G cc own nL rm nm em pc cells slots lv (dnV b r :: st) F := by
  cases r with
  | none => exact dn_sto (fun hx hb hl kk => lv_astore_nN hx hb hdg rfl hl hn rfl (fun ls2 h2 => kk ls2 (dnKp_has1 hk h2))) k
  | some a => exact dn_sto (fun hx hb hl kk => lv_astore_n hx hb hdg rfl hl hn rfl (fun ls2 h2 => kk ls2 (dnKp_has1 hk h2))) k
theorem dn_iinc {i : Nat} {n : Int} {v1 : Int32} (v : Int32) {lv2 : List (Nat × Value)} (j : Nat) (hdg : decode cc pc = .ok (.iinc i n, 3)) (hj : lv[j]? = some (i, .int v1)) (hv : v1 + Int32.ofInt n = v) (hn : i < nL) (hk : dnKp i 1 lv lv2) (k : dnD w x b G cc own nL rm nm em (pc + 3) cells slots ((i, .int v) :: lv2) st F) : dnD w x b G cc own nL rm nm em pc cells slots lv st F := dn_sto (fun hx hb hl kk => lv_iinc hx hb hdg hl hj hv hn rfl (fun ls2 h2 => kk ls2 (dnKp_has1 hk h2))) k
theorem dn_if_eq {x1 : Int32} {off : Int} (tgt : Nat) {X Y : dnM β} {g : β → dnM α} (hdg : decode cc pc = .ok (.ifCond .eq off, 3)) (ht : (pc : Int) + off = (tgt : Int)) (kt : x1 = 0 → dnD w x b G cc own nL rm nm em tgt cells slots lv st (dnB X g)) (kf : ¬ (x1 = 0) → dnD w x b G cc own nL rm nm em (pc + 3) cells slots lv st (dnB Y g)) : dnD w x b G cc own nL rm nm em pc cells slots lv (.int x1 :: st) (dnB (if x1 = 0 then X else Y) g) := by
  intro p l e s m args below meth c Q h a h1 H locs ls hC hF hR hS hl hq
  rw [dnB_ite] at hF
  by_cases hc : x1 = 0
  · rw [if_pos hc] at hF
    exact lv_if_eq (tgt := tgt) hC.1 hC.2.1 hdg ht (fun _ => kt hc p l e s m args below meth c Q h a h1 H locs ls hC hF hR hS hl hq) (fun hn => absurd hc (by first | exact hn | exact fun z => z hn))
  · rw [if_neg hc] at hF
    exact lv_if_eq (tgt := tgt) hC.1 hC.2.1 hdg ht (fun hn => absurd hn hc) (fun _ => kf hc p l e s m args below meth c Q h a h1 H locs ls hC hF hR hS hl hq)
theorem dn_if_ne {x1 : Int32} {off : Int} (tgt : Nat) {X Y : dnM β} {g : β → dnM α} (hdg : decode cc pc = .ok (.ifCond .ne off, 3)) (ht : (pc : Int) + off = (tgt : Int)) (kt : ¬ x1 = 0 → dnD w x b G cc own nL rm nm em tgt cells slots lv st (dnB X g)) (kf : ¬ (¬ x1 = 0) → dnD w x b G cc own nL rm nm em (pc + 3) cells slots lv st (dnB Y g)) : dnD w x b G cc own nL rm nm em pc cells slots lv (.int x1 :: st) (dnB (if ¬ x1 = 0 then X else Y) g) := by
  intro p l e s m args below meth c Q h a h1 H locs ls hC hF hR hS hl hq
  rw [dnB_ite] at hF
  by_cases hc : ¬ x1 = 0
  · rw [if_pos hc] at hF
    exact lv_if_ne (tgt := tgt) hC.1 hC.2.1 hdg ht (fun _ => kt hc p l e s m args below meth c Q h a h1 H locs ls hC hF hR hS hl hq) (fun hn => absurd hc (by first | exact hn | exact fun z => z hn))
  · rw [if_neg hc] at hF
    exact lv_if_ne (tgt := tgt) hC.1 hC.2.1 hdg ht (fun hn => absurd hn hc) (fun _ => kf hc p l e s m args below meth c Q h a h1 H locs ls hC hF hR hS hl hq)
theorem dn_if_lt {x1 : Int32} {off : Int} (tgt : Nat) {X Y : dnM β} {g : β → dnM α} (hdg : decode cc pc = .ok (.ifCond .lt off, 3)) (ht : (pc : Int) + off = (tgt : Int)) (kt : x1 < 0 → dnD w x b G cc own nL rm nm em tgt cells slots lv st (dnB X g)) (kf : ¬ (x1 < 0) → dnD w x b G cc own nL rm nm em (pc + 3) cells slots lv st (dnB Y g)) : dnD w x b G cc own nL rm nm em pc cells slots lv (.int x1 :: st) (dnB (if x1 < 0 then X else Y) g) := by
  intro p l e s m args below meth c Q h a h1 H locs ls hC hF hR hS hl hq
  rw [dnB_ite] at hF
  by_cases hc : x1 < 0
  · rw [if_pos hc] at hF
    exact lv_if_lt (tgt := tgt) hC.1 hC.2.1 hdg ht (fun _ => kt hc p l e s m args below meth c Q h a h1 H locs ls hC hF hR hS hl hq) (fun hn => absurd hc (by first | exact hn | exact fun z => z hn))
  · rw [if_neg hc] at hF
    exact lv_if_lt (tgt := tgt) hC.1 hC.2.1 hdg ht (fun hn => absurd hn hc) (fun _ => kf hc p l e s m args below meth c Q h a h1 H locs ls hC hF hR hS hl hq)
theorem dn_if_ge {x1 : Int32} {off : Int} (tgt : Nat) {X Y : dnM β} {g : β → dnM α} (hdg : decode cc pc = .ok (.ifCond .ge off, 3)) (ht : (pc : Int) + off = (tgt : Int)) (kt : 0 ≤ x1 → dnD w x b G cc own nL rm nm em tgt cells slots lv st (dnB X g)) (kf : ¬ (0 ≤ x1) → dnD w x b G cc own nL rm nm em (pc + 3) cells slots lv st (dnB Y g)) : dnD w x b G cc own nL rm nm em pc cells slots lv (.int x1 :: st) (dnB (if 0 ≤ x1 then X else Y) g) := by
  intro p l e s m args below meth c Q h a h1 H locs ls hC hF hR hS hl hq
  rw [dnB_ite] at hF
  by_cases hc : 0 ≤ x1
  · rw [if_pos hc] at hF
    exact lv_if_ge (tgt := tgt) hC.1 hC.2.1 hdg ht (fun _ => kt hc p l e s m args below meth c Q h a h1 H locs ls hC hF hR hS hl hq) (fun hn => absurd hc (by first | exact hn | exact fun z => z hn))
  · rw [if_neg hc] at hF
    exact lv_if_ge (tgt := tgt) hC.1 hC.2.1 hdg ht (fun hn => absurd hn hc) (fun _ => kf hc p l e s m args below meth c Q h a h1 H locs ls hC hF hR hS hl hq)
theorem dn_if_gt {x1 : Int32} {off : Int} (tgt : Nat) {X Y : dnM β} {g : β → dnM α} (hdg : decode cc pc = .ok (.ifCond .gt off, 3)) (ht : (pc : Int) + off = (tgt : Int)) (kt : 0 < x1 → dnD w x b G cc own nL rm nm em tgt cells slots lv st (dnB X g)) (kf : ¬ (0 < x1) → dnD w x b G cc own nL rm nm em (pc + 3) cells slots lv st (dnB Y g)) : dnD w x b G cc own nL rm nm em pc cells slots lv (.int x1 :: st) (dnB (if 0 < x1 then X else Y) g) := by
  intro p l e s m args below meth c Q h a h1 H locs ls hC hF hR hS hl hq
  rw [dnB_ite] at hF
  by_cases hc : 0 < x1
  · rw [if_pos hc] at hF
    exact lv_if_gt (tgt := tgt) hC.1 hC.2.1 hdg ht (fun _ => kt hc p l e s m args below meth c Q h a h1 H locs ls hC hF hR hS hl hq) (fun hn => absurd hc (by first | exact hn | exact fun z => z hn))
  · rw [if_neg hc] at hF
    exact lv_if_gt (tgt := tgt) hC.1 hC.2.1 hdg ht (fun hn => absurd hn hc) (fun _ => kf hc p l e s m args below meth c Q h a h1 H locs ls hC hF hR hS hl hq)
theorem dn_if_le {x1 : Int32} {off : Int} (tgt : Nat) {X Y : dnM β} {g : β → dnM α} (hdg : decode cc pc = .ok (.ifCond .le off, 3)) (ht : (pc : Int) + off = (tgt : Int)) (kt : x1 ≤ 0 → dnD w x b G cc own nL rm nm em tgt cells slots lv st (dnB X g)) (kf : ¬ (x1 ≤ 0) → dnD w x b G cc own nL rm nm em (pc + 3) cells slots lv st (dnB Y g)) : dnD w x b G cc own nL rm nm em pc cells slots lv (.int x1 :: st) (dnB (if x1 ≤ 0 then X else Y) g) := by
  intro p l e s m args below meth c Q h a h1 H locs ls hC hF hR hS hl hq
  rw [dnB_ite] at hF
  by_cases hc : x1 ≤ 0
  · rw [if_pos hc] at hF
    exact lv_if_le (tgt := tgt) hC.1 hC.2.1 hdg ht (fun _ => kt hc p l e s m args below meth c Q h a h1 H locs ls hC hF hR hS hl hq) (fun hn => absurd hc (by first | exact hn | exact fun z => z hn))
  · rw [if_neg hc] at hF
    exact lv_if_le (tgt := tgt) hC.1 hC.2.1 hdg ht (fun hn => absurd hn hc) (fun _ => kf hc p l e s m args below meth c Q h a h1 H locs ls hC hF hR hS hl hq)
theorem dn_icmp_eq {x1 y1 : Int32} {off : Int} (tgt : Nat) {X Y : dnM β} {g : β → dnM α} (hdg : decode cc pc = .ok (.if_icmp .eq off, 3)) (ht : (pc : Int) + off = (tgt : Int)) (kt : x1 = y1 → dnD w x b G cc own nL rm nm em tgt cells slots lv st (dnB X g)) (kf : ¬ (x1 = y1) → dnD w x b G cc own nL rm nm em (pc + 3) cells slots lv st (dnB Y g)) : dnD w x b G cc own nL rm nm em pc cells slots lv (.int y1 :: .int x1 :: st) (dnB (if x1 = y1 then X else Y) g) := by
  intro p l e s m args below meth c Q h a h1 H locs ls hC hF hR hS hl hq
  rw [dnB_ite] at hF
  by_cases hc : x1 = y1
  · rw [if_pos hc] at hF
    exact lv_icmp_eq (tgt := tgt) hC.1 hC.2.1 hdg ht (fun _ => kt hc p l e s m args below meth c Q h a h1 H locs ls hC hF hR hS hl hq) (fun hn => absurd hc (by first | exact hn | exact fun z => z hn))
  · rw [if_neg hc] at hF
    exact lv_icmp_eq (tgt := tgt) hC.1 hC.2.1 hdg ht (fun hn => absurd hn hc) (fun _ => kf hc p l e s m args below meth c Q h a h1 H locs ls hC hF hR hS hl hq)
theorem dn_icmp_ne {x1 y1 : Int32} {off : Int} (tgt : Nat) {X Y : dnM β} {g : β → dnM α} (hdg : decode cc pc = .ok (.if_icmp .ne off, 3)) (ht : (pc : Int) + off = (tgt : Int)) (kt : ¬ x1 = y1 → dnD w x b G cc own nL rm nm em tgt cells slots lv st (dnB X g)) (kf : ¬ (¬ x1 = y1) → dnD w x b G cc own nL rm nm em (pc + 3) cells slots lv st (dnB Y g)) : dnD w x b G cc own nL rm nm em pc cells slots lv (.int y1 :: .int x1 :: st) (dnB (if ¬ x1 = y1 then X else Y) g) := by
  intro p l e s m args below meth c Q h a h1 H locs ls hC hF hR hS hl hq
  rw [dnB_ite] at hF
  by_cases hc : ¬ x1 = y1
  · rw [if_pos hc] at hF
    exact lv_icmp_ne (tgt := tgt) hC.1 hC.2.1 hdg ht (fun _ => kt hc p l e s m args below meth c Q h a h1 H locs ls hC hF hR hS hl hq) (fun hn => absurd hc (by first | exact hn | exact fun z => z hn))
  · rw [if_neg hc] at hF
    exact lv_icmp_ne (tgt := tgt) hC.1 hC.2.1 hdg ht (fun hn => absurd hn hc) (fun _ => kf hc p l e s m args below meth c Q h a h1 H locs ls hC hF hR hS hl hq)
theorem dn_icmp_lt {x1 y1 : Int32} {off : Int} (tgt : Nat) {X Y : dnM β} {g : β → dnM α} (hdg : decode cc pc = .ok (.if_icmp .lt off, 3)) (ht : (pc : Int) + off = (tgt : Int)) (kt : x1 < y1 → dnD w x b G cc own nL rm nm em tgt cells slots lv st (dnB X g)) (kf : ¬ (x1 < y1) → dnD w x b G cc own nL rm nm em (pc + 3) cells slots lv st (dnB Y g)) : dnD w x b G cc own nL rm nm em pc cells slots lv (.int y1 :: .int x1 :: st) (dnB (if x1 < y1 then X else Y) g) := by
  intro p l e s m args below meth c Q h a h1 H locs ls hC hF hR hS hl hq
  rw [dnB_ite] at hF
  by_cases hc : x1 < y1
  · rw [if_pos hc] at hF
    exact lv_icmp_lt (tgt := tgt) hC.1 hC.2.1 hdg ht (fun _ => kt hc p l e s m args below meth c Q h a h1 H locs ls hC hF hR hS hl hq) (fun hn => absurd hc (by first | exact hn | exact fun z => z hn))
  · rw [if_neg hc] at hF
    exact lv_icmp_lt (tgt := tgt) hC.1 hC.2.1 hdg ht (fun hn => absurd hn hc) (fun _ => kf hc p l e s m args below meth c Q h a h1 H locs ls hC hF hR hS hl hq)
theorem dn_icmp_ge {x1 y1 : Int32} {off : Int} (tgt : Nat) {X Y : dnM β} {g : β → dnM α} (hdg : decode cc pc = .ok (.if_icmp .ge off, 3)) (ht : (pc : Int) + off = (tgt : Int)) (kt : y1 ≤ x1 → dnD w x b G cc own nL rm nm em tgt cells slots lv st (dnB X g)) (kf : ¬ (y1 ≤ x1) → dnD w x b G cc own nL rm nm em (pc + 3) cells slots lv st (dnB Y g)) : dnD w x b G cc own nL rm nm em pc cells slots lv (.int y1 :: .int x1 :: st) (dnB (if y1 ≤ x1 then X else Y) g) := by
  intro p l e s m args below meth c Q h a h1 H locs ls hC hF hR hS hl hq
  rw [dnB_ite] at hF
  by_cases hc : y1 ≤ x1
  · rw [if_pos hc] at hF
    exact lv_icmp_ge (tgt := tgt) hC.1 hC.2.1 hdg ht (fun _ => kt hc p l e s m args below meth c Q h a h1 H locs ls hC hF hR hS hl hq) (fun hn => absurd hc (by first | exact hn | exact fun z => z hn))
  · rw [if_neg hc] at hF
    exact lv_icmp_ge (tgt := tgt) hC.1 hC.2.1 hdg ht (fun hn => absurd hn hc) (fun _ => kf hc p l e s m args below meth c Q h a h1 H locs ls hC hF hR hS hl hq)
theorem dn_icmp_gt {x1 y1 : Int32} {off : Int} (tgt : Nat) {X Y : dnM β} {g : β → dnM α} (hdg : decode cc pc = .ok (.if_icmp .gt off, 3)) (ht : (pc : Int) + off = (tgt : Int)) (kt : y1 < x1 → dnD w x b G cc own nL rm nm em tgt cells slots lv st (dnB X g)) (kf : ¬ (y1 < x1) → dnD w x b G cc own nL rm nm em (pc + 3) cells slots lv st (dnB Y g)) : dnD w x b G cc own nL rm nm em pc cells slots lv (.int y1 :: .int x1 :: st) (dnB (if y1 < x1 then X else Y) g) := by
  intro p l e s m args below meth c Q h a h1 H locs ls hC hF hR hS hl hq
  rw [dnB_ite] at hF
  by_cases hc : y1 < x1
  · rw [if_pos hc] at hF
    exact lv_icmp_gt (tgt := tgt) hC.1 hC.2.1 hdg ht (fun _ => kt hc p l e s m args below meth c Q h a h1 H locs ls hC hF hR hS hl hq) (fun hn => absurd hc (by first | exact hn | exact fun z => z hn))
  · rw [if_neg hc] at hF
    exact lv_icmp_gt (tgt := tgt) hC.1 hC.2.1 hdg ht (fun hn => absurd hn hc) (fun _ => kf hc p l e s m args below meth c Q h a h1 H locs ls hC hF hR hS hl hq)
theorem dn_icmp_le {x1 y1 : Int32} {off : Int} (tgt : Nat) {X Y : dnM β} {g : β → dnM α} (hdg : decode cc pc = .ok (.if_icmp .le off, 3)) (ht : (pc : Int) + off = (tgt : Int)) (kt : x1 ≤ y1 → dnD w x b G cc own nL rm nm em tgt cells slots lv st (dnB X g)) (kf : ¬ (x1 ≤ y1) → dnD w x b G cc own nL rm nm em (pc + 3) cells slots lv st (dnB Y g)) : dnD w x b G cc own nL rm nm em pc cells slots lv (.int y1 :: .int x1 :: st) (dnB (if x1 ≤ y1 then X else Y) g) := by
  intro p l e s m args below meth c Q h a h1 H locs ls hC hF hR hS hl hq
  rw [dnB_ite] at hF
  by_cases hc : x1 ≤ y1
  · rw [if_pos hc] at hF
    exact lv_icmp_le (tgt := tgt) hC.1 hC.2.1 hdg ht (fun _ => kt hc p l e s m args below meth c Q h a h1 H locs ls hC hF hR hS hl hq) (fun hn => absurd hc (by first | exact hn | exact fun z => z hn))
  · rw [if_neg hc] at hF
    exact lv_icmp_le (tgt := tgt) hC.1 hC.2.1 hdg ht (fun hn => absurd hn hc) (fun _ => kf hc p l e s m args below meth c Q h a h1 H locs ls hC hF hR hS hl hq)
theorem dn_ifz_eq {v1 : Bool} {off : Int} (tgt : Nat) {X Y : dnM β} {g : β → dnM α} (hdg : decode cc pc = .ok (.ifCond .eq off, 3)) (ht : (pc : Int) + off = (tgt : Int)) (kt : v1 = true → dnD w x b G cc own nL rm nm em (pc + 3) cells slots lv st (dnB X g)) (kf : v1 = false → dnD w x b G cc own nL rm nm em tgt cells slots lv st (dnB Y g)) : dnD w x b G cc own nL rm nm em pc cells slots lv (.int (dnZ v1) :: st) (dnB (if v1 = true then X else Y) g) := by
  intro p l e s m args below meth c Q h a h1 H locs ls hC hF hR hS hl hq
  rw [dnB_ite] at hF
  cases v1 with
  | true =>
    rw [if_pos rfl] at hF
    exact lv_if_eq (tgt := tgt) hC.1 hC.2.1 hdg ht (fun hn => absurd hn (by decide)) (fun hn => kt rfl p l e s m args below meth c Q h a h1 H locs ls hC hF hR hS hl hq)
  | false =>
    rw [if_neg (by decide)] at hF
    exact lv_if_eq (tgt := tgt) hC.1 hC.2.1 hdg ht (fun hn => kf rfl p l e s m args below meth c Q h a h1 H locs ls hC hF hR hS hl hq) (fun hn => absurd rfl hn)
theorem dn_ifz_ne {v1 : Bool} {off : Int} (tgt : Nat) {X Y : dnM β} {g : β → dnM α} (hdg : decode cc pc = .ok (.ifCond .ne off, 3)) (ht : (pc : Int) + off = (tgt : Int)) (kt : v1 = true → dnD w x b G cc own nL rm nm em tgt cells slots lv st (dnB X g)) (kf : v1 = false → dnD w x b G cc own nL rm nm em (pc + 3) cells slots lv st (dnB Y g)) : dnD w x b G cc own nL rm nm em pc cells slots lv (.int (dnZ v1) :: st) (dnB (if v1 = true then X else Y) g) := by
  intro p l e s m args below meth c Q h a h1 H locs ls hC hF hR hS hl hq
  rw [dnB_ite] at hF
  cases v1 with
  | true =>
    rw [if_pos rfl] at hF
    exact lv_if_ne (tgt := tgt) hC.1 hC.2.1 hdg ht (fun hn => kt rfl p l e s m args below meth c Q h a h1 H locs ls hC hF hR hS hl hq) (fun hn => absurd hn (by decide))
  | false =>
    rw [if_neg (by decide)] at hF
    exact lv_if_ne (tgt := tgt) hC.1 hC.2.1 hdg ht (fun hn => absurd rfl hn) (fun hn => kf rfl p l e s m args below meth c Q h a h1 H locs ls hC hF hR hS hl hq)
theorem dn_ifnull {off : Int} (r : Option Nat) (tgt : Nat) {X : dnM β} {Y : Nat → dnM β} {g : β → dnM α} (hdg : decode cc pc = .ok (.ifnull off, 3)) (ht : (pc : Int) + off = (tgt : Int)) (kt : r = none → dnD w x b G cc own nL rm nm em tgt cells slots lv st (dnB X g)) (kf : ∀ a, r = some a → dnD w x b G cc own nL rm nm em (pc + 3) cells slots lv st (dnB (Y a) g)) : dnD w x b G cc own nL rm nm em pc cells slots lv (dnV b r :: st) (dnB (r.elim X Y) g) := by
  intro p l e s m args below meth c Q h a h1 H locs ls hC hF hR hS hl hq
  cases r with
  | none => exact lv_ifnullN hC.1 hC.2.1 hdg ht (kt rfl p l e s m args below meth c Q h a h1 H locs ls hC hF hR hS hl hq)
  | some z => exact lv_ifnull hC.1 hC.2.1 hdg (kf z rfl p l e s m args below meth c Q h a h1 H locs ls hC hF hR hS hl hq)
theorem dn_ifnonnull {off : Int} (r : Option Nat) (tgt : Nat) {X : dnM β} {Y : Nat → dnM β} {g : β → dnM α} (hdg : decode cc pc = .ok (.ifnonnull off, 3)) (ht : (pc : Int) + off = (tgt : Int)) (kt : r = none → dnD w x b G cc own nL rm nm em (pc + 3) cells slots lv st (dnB X g)) (kf : ∀ a, r = some a → dnD w x b G cc own nL rm nm em tgt cells slots lv st (dnB (Y a) g)) : dnD w x b G cc own nL rm nm em pc cells slots lv (dnV b r :: st) (dnB (r.elim X Y) g) := by
  intro p l e s m args below meth c Q h a h1 H locs ls hC hF hR hS hl hq
  cases r with
  | none => exact lv_ifnonnullN hC.1 hC.2.1 hdg (kt rfl p l e s m args below meth c Q h a h1 H locs ls hC hF hR hS hl hq)
  | some z => exact lv_ifnonnull hC.1 hC.2.1 hdg ht (kf z rfl p l e s m args below meth c Q h a h1 H locs ls hC hF hR hS hl hq)
/-- a loop's head: 'cells' and 'slots' stay -/
theorem dn_loop {σ ρ : Type} {body : σ → dnM (σ ⊕ ρ)} {g : ρ → dnM α} (LV : σ → List (Nat × Value))
    (hb : ∀ (s : σ) (K : σ → dnM α), (∀ s1 : σ, dnD w x b G cc own nL rm nm em pc cells slots (LV s1) st (K s1)) → dnD w x b G cc own nL rm nm em pc cells slots (LV s) st (dnB (body s) fun r => match r with | .inl s1 => K s1 | .inr q => g q)) :
    ∀ (n : Nat) (s : σ), dnD w x b G cc own nL rm nm em pc cells slots (LV s) st (dnB (dnIt n body s) g) := by
  intro n
  induction n with
  | zero =>
    intro s p l e s2 m args below meth c Q h a h1 H locs ls hC hF
    cases hF
  | succ n ih =>
    intro s
    refine dn_eqF ?_ (hb s (fun s1 => dnB (dnIt n body s1) g) ih)
    show dnB (dnB (body s) _) g = _
    rw [dnB_assoc]
    congr 1
    funext r
    cases r <;> rfl
theorem dn_assoc {X : dnM γ} {f : γ → dnM β} {g : β → dnM α} (k : dnD w x b G cc own nL rm nm em pc cells slots lv st (dnB X fun a => dnB (f a) g)) : dnD w x b G cc own nL rm nm em pc cells slots lv st (dnB (dnB X f) g) := by
  rw [dnB_assoc]
  exact k
theorem dn_ret {a : α} (hc : cells ≤ rm.cells) (hs : slots ≤ rm.slots) (hst : (em a).toList = st) (hd : dnRA cc pc (em a)) : dnD w x b G cc own nL rm nm em pc cells slots lv st (dnB (dnP a) dnP) := by
  intro p l e s m args below meth c Q h a1 h1 H locs ls hC hF hR hS hl hq
  cases hF
  rw [← hst]
  exact W.widen hc hs (hq H locs ls pc hR hS hd)
end DN
