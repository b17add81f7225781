/-! CORE 2: the world of the claim in such words -/
abbrev dnWd : Type := va_G × (Nat → ClassId)
def dnTys (w : dnWd) : List (ClassId × FieldType) := [(w.2 100, .int), (w.2 101, .char), (w.2 102, .long), (w.2 103, .double), (w.2 104, .object RX5), (w.2 105, .object RX9)]
/-- the fields of a kind of object: 0 int, 1 long, 2 double, 3 a reference -/
def dnFt : Nat → List Nat
  | 0 => [3, 3, 3, 0]
  | 1 => [1, 0, 0]
  | 2 => [3, 0, 3, 3]
  | 3 => [3, 3, 3, 3, 0, 3]
  | 4 => [0, 0, 0, 3, 3, 3]
  | 5 => [3, 3, 3, 3]
  | 6 => [3, 3, 3, 3, 3, 1, 0]
  | 7 => [3, 3, 3]
  | 8 => [3, 3, 1, 2, 0, 0]
  | 9 => [3, 3]
  | 10 => [3, 3, 3, 3, 3, 3, 3, 3, 3, 3, 3, 3]
  | 11 => [3, 1, 0, 0, 3, 3, 3, 3, 3, 3, 3, 3, 0, 1, 2, 3, 3, 3, 3, 0, 1, 2, 3, 3, 3, 3, 3, 1, 3, 3, 3, 3, 3, 3, 3, 3, 3, 0, 0, 0, 0, 3, 3, 0, 3, 3]
  | _ => []
abbrev dnV (b : Nat) (r : Option Nat) : Value := va_rf (r.map (b + ·))
def dnFv (b : Nat) (h : dnH) (a k t : Nat) : Value := match t with
  | 0 => .int (h.2.1 a k)
  | 1 => .long (h.2.2.1 a k)
  | 2 => .double (h.2.2.2.1 a k)
  | _ => dnV b (h.2.2.2.2 a k)
def dnFs (b : Nat) (h : dnH) (a t : Nat) : List Value := (dnFt t).mapIdx fun k ty => dnFv b h a k ty
def dnAf (b : Nat) (h : dnH) (a t : Nat) : (Nat → Int32) ⊕ (Nat → Int64) ⊕ (Nat → UInt32) ⊕ (Nat → UInt64) ⊕ (Nat → Option Nat) :=
  if t < 102 then .inl (h.2.1 a) else if t = 102 then .inr (.inl (h.2.2.1 a)) else if t = 103 then .inr (.inr (.inr (.inl (h.2.2.2.1 a)))) else .inr (.inr (.inr (.inr (fun k => (h.2.2.2.2 a k).map (b + ·)))))
def dnE (w : dnWd) (b : Nat) (h : dnH) (a : Nat) (q : Nat × Nat) : va_E := if q.1 < 100 then .inr (q.1, dnFs b h a q.1) else .inl (w.2 q.1, q.2, dnAf b h a q.1)
def dnWs (w : dnWd) (b : Nat) (h : dnH) : va_W := h.1.mapIdx fun a q => (b + a, dnE w b h a q)
theorem dnWs_get {w : dnWd} {b : Nat} {h : dnH} {a : Nat} {q : Nat × Nat} (hq : h.1[a]? = some q) : (dnWs w b h)[a]? = some (b + a, dnE w b h a q) := by
  simp [dnWs, List.getElem?_mapIdx, hq]
theorem dnWs_inv {w : dnWd} {b : Nat} {h : dnH} {a : Nat} {q : Nat × va_E} (hq : (dnWs w b h)[a]? = some q) : ∃ k, h.1[a]? = some k ∧ q = (b + a, dnE w b h a k) := by
  simp only [dnWs, List.getElem?_mapIdx, Option.map_eq_some_iff] at hq
  obtain ⟨k, h1, h2⟩ := hq
  exact ⟨k, h1, h2.symm⟩
theorem dnWs_D {w : dnWd} {b : Nat} {h : dnH} : va_D (fun q => b ≤ q) (dnWs w b h) := by
  refine ⟨fun i j p q hi hj e => ?_, fun k q hk => ?_⟩
  · obtain ⟨_, _, rfl⟩ := dnWs_inv hi
    obtain ⟨_, _, rfl⟩ := dnWs_inv hj
    dsimp only at e
    omega
  · obtain ⟨_, _, rfl⟩ := dnWs_inv hk
    exact Nat.le_add_right b k
theorem dnWs_upd {w : dnWd} {b : Nat} {h h2 : dnH} {a : Nat} {q : Nat × Nat} (hK : h2.1 = h.1) (ho : ∀ (i : Nat) (q : Nat × Nat), i ≠ a → dnE w b h2 i q = dnE w b h i q) (hq : h.1[a]? = some q) : dnWs w b h2 = (dnWs w b h).set a (b + a, dnE w b h2 a q) := by
  apply List.ext_getElem?
  intro i
  by_cases hi : i = a
  · subst hi
    have hl : i < (dnWs w b h).length := (List.getElem?_eq_some_iff.mp (dnWs_get (w := w) (b := b) hq)).1
    rw [List.getElem?_set_self hl, dnWs_get (by rw [hK]; exact hq)]
  · rw [List.getElem?_set_ne (fun e => hi e.symm)]
    simp only [dnWs, List.getElem?_mapIdx, hK]
    cases h.1[i]? with
    | none => rfl
    | some k => simp only [Option.map_some, ho i k hi]
theorem dnUp_ne {α : Type} {f : Nat → Nat → α} {a k i : Nat} {v : α} (hi : i ≠ a) : dnUp f a k v i = f i := by
  funext y
  simp [dnUp, hi]

theorem dnE_I {w : dnWd} {b : Nat} {h : dnH} {a k : Nat} {v : Int32} (i : Nat) (q : Nat × Nat) (hi : i ≠ a) : dnE w b (dnSI h a k v) i q = dnE w b h i q := by
  simp only [dnE, dnFs, dnFv, dnAf, dnSI, dnUp_ne hi]
theorem dnFs_I {w : dnWd} {b : Nat} {h : dnH} {a k t n : Nat} {v : Int32} (ht : t < 100) (hk : (dnFt t)[k]? = some 0) : dnE w b (dnSI h a k v) a (t, n) = .inr (t, (dnFs b h a t).set k (.int v)) := by
  simp only [dnE, ht, if_true]
  congr 2
  apply List.ext_getElem?
  intro j
  have hl : k < (dnFs b h a t).length := by
    simp only [dnFs, List.length_mapIdx]
    exact (List.getElem?_eq_some_iff.mp hk).1
  by_cases hj : j = k
  · subst hj
    rw [List.getElem?_set_self hl]
    simp [dnFs, List.getElem?_mapIdx, hk, dnFv, dnSI, dnUp]
  · rw [List.getElem?_set_ne (fun e => hj e.symm)]
    simp only [dnFs, List.getElem?_mapIdx]
    cases (dnFt t)[j]? with
    | none => rfl
    | some ty => simp [dnFv, dnSI, dnUp, hj]
theorem dnFs_gI {b : Nat} {h : dnH} {a k t : Nat} (hk : (dnFt t)[k]? = some 0) : (dnFs b h a t)[k]? = some (.int (h.2.1 a k)) := by
  simp [dnFs, List.getElem?_mapIdx, hk, dnFv]
theorem dnE_L {w : dnWd} {b : Nat} {h : dnH} {a k : Nat} {v : Int64} (i : Nat) (q : Nat × Nat) (hi : i ≠ a) : dnE w b (dnSL h a k v) i q = dnE w b h i q := by
  simp only [dnE, dnFs, dnFv, dnAf, dnSL, dnUp_ne hi]
theorem dnFs_L {w : dnWd} {b : Nat} {h : dnH} {a k t n : Nat} {v : Int64} (ht : t < 100) (hk : (dnFt t)[k]? = some 1) : dnE w b (dnSL h a k v) a (t, n) = .inr (t, (dnFs b h a t).set k (.long v)) := by
  simp only [dnE, ht, if_true]
  congr 2
  apply List.ext_getElem?
  intro j
  have hl : k < (dnFs b h a t).length := by
    simp only [dnFs, List.length_mapIdx]
    exact (List.getElem?_eq_some_iff.mp hk).1
  by_cases hj : j = k
  · subst hj
    rw [List.getElem?_set_self hl]
    simp [dnFs, List.getElem?_mapIdx, hk, dnFv, dnSL, dnUp]
  · rw [List.getElem?_set_ne (fun e => hj e.symm)]
    simp only [dnFs, List.getElem?_mapIdx]
    cases (dnFt t)[j]? with
    | none => rfl
    | some ty => simp [dnFv, dnSL, dnUp, hj]
theorem dnFs_gL {b : Nat} {h : dnH} {a k t : Nat} (hk : (dnFt t)[k]? = some 1) : (dnFs b h a t)[k]? = some (.long (h.2.2.1 a k)) := by
  simp [dnFs, List.getElem?_mapIdx, hk, dnFv]
theorem dnE_D {w : dnWd} {b : Nat} {h : dnH} {a k : Nat} {v : UInt64} (i : Nat) (q : Nat × Nat) (hi : i ≠ a) : dnE w b (dnSD h a k v) i q = dnE w b h i q := by
  simp only [dnE, dnFs, dnFv, dnAf, dnSD, dnUp_ne hi]
theorem dnFs_D {w : dnWd} {b : Nat} {h : dnH} {a k t n : Nat} {v : UInt64} (ht : t < 100) (hk : (dnFt t)[k]? = some 2) : dnE w b (dnSD h a k v) a (t, n) = .inr (t, (dnFs b h a t).set k (.double v)) := by
  simp only [dnE, ht, if_true]
  congr 2
  apply List.ext_getElem?
  intro j
  have hl : k < (dnFs b h a t).length := by
    simp only [dnFs, List.length_mapIdx]
    exact (List.getElem?_eq_some_iff.mp hk).1
  by_cases hj : j = k
  · subst hj
    rw [List.getElem?_set_self hl]
    simp [dnFs, List.getElem?_mapIdx, hk, dnFv, dnSD, dnUp]
  · rw [List.getElem?_set_ne (fun e => hj e.symm)]
    simp only [dnFs, List.getElem?_mapIdx]
    cases (dnFt t)[j]? with
    | none => rfl
    | some ty => simp [dnFv, dnSD, dnUp, hj]
theorem dnFs_gD {b : Nat} {h : dnH} {a k t : Nat} (hk : (dnFt t)[k]? = some 2) : (dnFs b h a t)[k]? = some (.double (h.2.2.2.1 a k)) := by
  simp [dnFs, List.getElem?_mapIdx, hk, dnFv]
theorem dnE_R {w : dnWd} {b : Nat} {h : dnH} {a k : Nat} {v : Option Nat} (i : Nat) (q : Nat × Nat) (hi : i ≠ a) : dnE w b (dnSR h a k v) i q = dnE w b h i q := by
  simp only [dnE, dnFs, dnFv, dnAf, dnSR, dnUp_ne hi]
theorem dnFs_R {w : dnWd} {b : Nat} {h : dnH} {a k t n : Nat} {v : Option Nat} (ht : t < 100) (hk : (dnFt t)[k]? = some 3) : dnE w b (dnSR h a k v) a (t, n) = .inr (t, (dnFs b h a t).set k (dnV b v)) := by
  simp only [dnE, ht, if_true]
  congr 2
  apply List.ext_getElem?
  intro j
  have hl : k < (dnFs b h a t).length := by
    simp only [dnFs, List.length_mapIdx]
    exact (List.getElem?_eq_some_iff.mp hk).1
  by_cases hj : j = k
  · subst hj
    rw [List.getElem?_set_self hl]
    simp [dnFs, List.getElem?_mapIdx, hk, dnFv, dnSR, dnUp]
  · rw [List.getElem?_set_ne (fun e => hj e.symm)]
    simp only [dnFs, List.getElem?_mapIdx]
    cases (dnFt t)[j]? with
    | none => rfl
    | some ty => simp [dnFv, dnSR, dnUp, hj]
theorem dnFs_gR {b : Nat} {h : dnH} {a k t : Nat} (hk : (dnFt t)[k]? = some 3) : (dnFs b h a t)[k]? = some (dnV b (h.2.2.2.2 a k)) := by
  simp [dnFs, List.getElem?_mapIdx, hk, dnFv]
theorem dnAf_I {w : dnWd} {b : Nat} {h : dnH} {a k t n : Nat} {v : Int32} (ht : t = 100 ∨ t = 101) : dnE w b (dnSI h a k v) a (t, n) = .inl (w.2 t, n, .inl (upd (h.2.1 a) k v)) := by
  have e : dnUp h.2.1 a k v a = upd (h.2.1 a) k v := by
    funext j
    simp [dnUp, upd]
  rcases ht with rfl | rfl <;> simp [dnE, dnAf, dnSI, e]
theorem dnAf_L {w : dnWd} {b : Nat} {h : dnH} {a k n : Nat} {v : Int64} : dnE w b (dnSL h a k v) a (102, n) = .inl (w.2 102, n, .inr (.inl (vp_updL (h.2.2.1 a) k v))) := by
  have e : dnUp h.2.2.1 a k v a = vp_updL (h.2.2.1 a) k v := by
    funext j
    simp [dnUp, vp_updL]
  simp [dnE, dnAf, dnSL, e]
theorem dnAf_D {w : dnWd} {b : Nat} {h : dnH} {a k n : Nat} {v : UInt64} : dnE w b (dnSD h a k v) a (103, n) = .inl (w.2 103, n, .inr (.inr (.inr (.inl (vf_upd (h.2.2.2.1 a) k v))))) := by
  have e : dnUp h.2.2.2.1 a k v a = vf_upd (h.2.2.2.1 a) k v := by
    funext j
    simp [dnUp, vf_upd]
  simp [dnE, dnAf, dnSD, e]
theorem dnAf_R {w : dnWd} {b : Nat} {h : dnH} {a k t n v : Nat} (ht : t = 104 ∨ t = 105) : dnE w b (dnSR h a k (some v)) a (t, n) = .inl (w.2 t, n, .inr (.inr (.inr (.inr (va_up (fun k => (h.2.2.2.2 a k).map (b + ·)) k (some (b + v))))))) := by
  have e : (fun j => (dnUp h.2.2.2.2 a k (some v) a j).map (b + ·)) = va_up (fun k => (h.2.2.2.2 a k).map (b + ·)) k (some (b + v)) := by
    funext j
    by_cases hj : j = k <;> simp [dnUp, va_up, hj]
  rcases ht with rfl | rfl <;> simp [dnE, dnAf, dnSR, e]
def dnR (w : dnWd) (b : Nat) (h : dnH) (H : Heap) : Prop := H.size = b + h.1.length ∧ va_P w.1 vwCl (dnWs w b h) H

/-- what stands outside: a table of ints, the words of a plan -/
abbrev dnX : Type := Nat × Nat × Nat × (Nat → Nat) × (Nat → Nat) × (Nat → Nat)
def dnTk (j : Nat) : Int32 := [0x001, 0x002, 0x004, 0x00a, 0x01e, 0x03e, 0x07e, 0x0fe, 0xfff, 0x810, 0xb00, 0xc00].getD j 0
/-- the switch's table: the last word is its default -/
def dnSw (j : Nat) : Int32 := [1, 2, 3, 4, 5, 6, 7, 8, 9, 10, 11, 12, 13, 0].getD j 0
def dnNum (j : Nat) : Int32 := [4, 1, 4, 4, 5, 3, 3, 2, 3, 2, 4, 3, 4, 2].getD j 0
def dnWrd : List (List Int32) := [[114, 111, 119], [100, 114, 111, 112], [115, 119, 97, 112], [115, 104, 97, 114, 101], [99, 117, 116], [99, 97, 115, 116], [106, 111, 105, 110], [102, 108, 105, 112], [114, 111, 108, 108], [111, 114, 100, 101, 114], [97, 100, 100], [102, 108, 97, 116], [100, 101, 97, 108], [116, 117, 114, 110]]
def dnExt (x : dnX) (b : Nat) (U : State) (H : Heap) : Prop :=
  (va_Z "KindGrids" "TAKEN" "[I" (.ref x.1) (fun q => b ≤ q) U H ∧ va_T .int x.1 12 (fun j => .int (dnTk j)) (fun q => b ≤ q) U H) ∧
  (va_Z "KindGrids" "WORDS" "[LKindGrids$Step;" (.ref x.2.1) (fun q => b ≤ q) U H ∧ va_T (.object "KindGrids$Step") x.2.1 14 (fun j => .ref (x.2.2.2.1 j)) (fun q => b ≤ q) U H) ∧
  (va_Z "KindGrids$1" "$SwitchMap$KindGrids$Step" "[I" (.ref x.2.2.1) (fun q => b ≤ q) U H ∧ va_T .int x.2.2.1 14 (fun j => .int (dnSw j)) (fun q => b ≤ q) U H) ∧
  (va_Ef 14 "KindGrids$Step" "numbers" "I" (fun i => .int (dnNum i)) x.2.2.2.1 (fun q => b ≤ q) U H ∧ va_Ef 14 "java/lang/Enum" "ordinal" "I" (fun i => .int (Int32.ofNat i)) x.2.2.2.1 (fun q => b ≤ q) U H ∧ va_Ef 14 "KindGrids$Step" "word" "Ljava/lang/String;" (fun i => .ref (x.2.2.2.2.1 i)) x.2.2.2.1 (fun q => b ≤ q) U H) ∧
  (∀ i : Nat, i < 14 → va_O "KindGrids$Step" (x.2.2.2.1 i) (fun q => b ≤ q) U H) ∧
  vk_S 14 (dnWrd.map List.length) dnWrd x.2.2.2.2.1 x.2.2.2.2.2 (fun q => b ≤ q) U H ∧ va_Z "java/lang/String" "COMPACT_STRINGS" "Z" (.int 1) (fun q => b ≤ q) U H ∧
  va_Zq "jdk/internal/util/Preconditions" "SIOOBE_FORMATTER" "Ljava/util/function/BiFunction;" (fun q => b ≤ q) U H
theorem dnExt.moved {x : dnX} {b : Nat} {u U : State} {H : Heap} (hvm : u.vm.Alike U.vm) (h : dnExt x b u H) : dnExt x b U H := by
  obtain ⟨⟨a1, a2⟩, ⟨b1, b2⟩, ⟨c1, c2⟩, ⟨d1, d2, d3⟩, e, f, g, z⟩ := h
  exact ⟨⟨a1.moved hvm, a2.moved hvm⟩, ⟨b1.moved hvm, b2.moved hvm⟩, ⟨c1.moved hvm, c2.moved hvm⟩, ⟨d1.moved hvm, d2.moved hvm, d3.moved hvm⟩, fun i hi => (e i hi).moved hvm, f.moved hvm, g.moved hvm, z.moved hvm⟩
theorem dnExt.kept {x : dnX} {b : Nat} {U : State} {H H1 : Heap} (h : dnExt x b U H) (hq : ∀ a : Nat, a < H.size → ¬ b ≤ a → H1[a]? = H[a]?) : dnExt x b U H1 := by
  obtain ⟨⟨a1, a2⟩, ⟨b1, b2⟩, ⟨c1, c2⟩, ⟨d1, d2, d3⟩, e, f, g, z⟩ := h
  exact ⟨⟨a1.kept hq, a2.kept hq⟩, ⟨b1.kept hq, b2.kept hq⟩, ⟨c1.kept hq, c2.kept hq⟩, ⟨d1.kept hq, d2.kept hq, d3.kept hq⟩, fun i hi => (e i hi).kept hq, f.kept hq, g.kept hq, z.kept hq⟩
/-- the words that go along with every state; those of nest mates -/
def lw_ok : List Cond := lw_tbl.filter goodWord
def dnNst : Cond → Bool
  | .methodLinkNest _ _ _ _ => true
  | .fieldLinkNest _ _ _ _ _ _ => true
  | _ => false
def lw_nest : List Cond := lw_tbl.filter dnNst
theorem lw_okof {wd : Cond} (i : Nat) (h : lw_tbl[i]? = some wd) (hg : goodWord wd = true) : wd ∈ lw_ok := List.mem_filter.mpr ⟨List.mem_of_getElem? h, hg⟩
theorem lw_nestof {wd : Cond} (i : Nat) (h : lw_tbl[i]? = some wd) (hg : dnNst wd = true) : wd ∈ lw_nest := List.mem_filter.mpr ⟨List.mem_of_getElem? h, hg⟩
theorem lw_good : GoodIn lw_ok lw_ok := fun w h => ⟨h, good_of_word (List.mem_filter.mp h).2⟩
def dnSt (U : State) : Prop := (∀ wd ∈ lw_nest, va_Nw wd U) ∧ va_AO RX5 U ∧ va_AO RX9 U
theorem dnNst_on {wd : Cond} (h : dnNst wd = true) : wd.onTables = true := by
  cases wd <;> first | rfl | exact absurd h (by simp [dnNst])
theorem dnSt.warm {s U : State} (hW : s.WarmedH U.vm) (h : dnSt s) : dnSt U := by
  refine ⟨fun wd hw => ?_, h.2.1.moved hW.alike, h.2.2.moved hW.alike⟩
  have h1 := h.1 wd hw
  have h2 := (List.mem_filter.mp hw).2
  cases wd <;> first | exact h1.warmM hW | exact h1.warmF hW | (simp [dnNst] at h2)
theorem dnSt.same {s U : State} (hv : s.vm = U.vm) (h : dnSt s) : dnSt U := by
  refine ⟨fun wd hw => (h.1 wd hw).same (dnNst_on (List.mem_filter.mp hw).2) hv, h.2.1.moved ?_, h.2.2.moved ?_⟩ <;> rw [hv] <;> exact Vm.Alike.refl _
def dnRep (w : dnWd) (x : dnX) (b : Nat) (h : dnH) (U : State) : Prop := dnR w b h U.heap ∧ va_K w.1 vwCl (dnTys w) U ∧ dnExt x b U U.heap ∧ dnSt U
/-- what a method's walk stands on -/
def dnCtx (w : dnWd) (x : dnX) (b : Nat) (G : State → Prop) (cc : ByteArray) (own : String) (nL : Nat) (nm : String) (p : Program) (s : State) (m : MethodId) (args : Array Value) (meth : Method) (c : Code) : Prop :=
  p.tables.exec = Jvm.exec ∧ c.code = cc ∧ c.maxLocals = nL ∧ s.vm.findClass own = some m.cls ∧ (∀ wd ∈ lw_ok, wd.before args s = true) ∧ meth.name = nm ∧ va_K w.1 vwCl (dnTys w) s ∧ dnExt x b s s.heap ∧ b ≤ s.heap.size ∧ dnSt s ∧ G s
/-- a return of this value stands at pc -/
def dnRA (cc : ByteArray) (pc : Nat) (v : Option Value) : Prop := match v with
  | none => decode cc pc = .ok (.return_, 1)
  | some (.int _) => decode cc pc = .ok (.ireturn, 1)
  | some (.long _) => decode cc pc = .ok (.lreturn, 1)
  | some (.float _) => decode cc pc = .ok (.freturn, 1)
  | some (.double _) => decode cc pc = .ok (.dreturn, 1)
  | _ => decode cc pc = .ok (.areturn, 1)
/-- THE JUDGEMENT: from pc, with these locals and this stack, the code does what F says -/
def dnD (w : dnWd) (x : dnX) (b : Nat) (G : State → Prop) (cc : ByteArray) (own : String) (nL : Nat) (rm : Room) (nm : String) {α : Type} (em : α → Option Value) (pc cells slots : Nat) (lv : List (Nat × Value)) (st : List Value) (F : dnM α) : Prop :=
  ∀ (p : Program) (l : Launch) (e : Env) (s : State) (m : MethodId) (args : Array Value) (below : List Frame) (meth : Method) (c : Code) (Q : State → Prop) (h : dnH) (a : α) (h1 : dnH) (H : Heap) (locs : List Loc) (ls : Array Slot),
    dnCtx w x b G cc own nL nm p s m args meth c → F h = some (a, h1) → dnR w b h H → va_S (fun q => b ≤ q) s.heap H locs → lv_has ls nL lv →
    (∀ (H1 : Heap) (locs1 : List Loc) (ls1 : Array Slot) (pc1 : Nat), dnR w b h1 H1 → va_S (fun q => b ≤ q) s.heap H1 locs1 → dnRA cc pc1 (em a) → W p l e rm s m args below meth c H1 locs1 rm.cells rm.slots Q (F0 m pc1 ls1 (em a).toList)) →
    W p l e rm s m args below meth c H locs cells slots Q (F0 m pc ls st)

