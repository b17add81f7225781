/-! ABS 38: what a fold keeps -/
def ZE (a b : UInt64) : Prop := a = b ∨ (a = FP.Core.dzeroNeg ∧ b = FP.dconst0)
theorem ze_first {z : UInt64} (h : FP.Core.val64 z ≠ .nan) : ZE z (FP.dadd FP.dconst0 z) := by
  rw [show FP.dadd FP.dconst0 z = FP.dadd z FP.dconst0 from FP.Core.dadd_comm _ _]
  by_cases q : z = FP.Core.dzeroNeg
  · right
    rw [q]
    exact ⟨rfl, by decide +kernel⟩
  · left
    exact (FP.Core.dadd_zero h q).symm
theorem ZE.add {a b z : UInt64} (e : ZE a b) (h : FP.Core.val64 z ≠ .nan) : ZE (FP.dadd a z) (FP.dadd b z) := by
  rcases e with e | ⟨e1, e2⟩
  · rw [e]
    exact .inl rfl
  · rw [e1, e2]
    have : FP.dadd FP.Core.dzeroNeg z = z := by
      rw [show FP.dadd FP.Core.dzeroNeg z = FP.dadd z FP.Core.dzeroNeg from FP.Core.dadd_comm _ _]
      exact FP.Core.dadd_zeroNeg h
    rw [this]
    exact ze_first h
theorem ZE.code {a b : UInt64} (e : ZE a b) : FP.d2l (FP.dmul 4620693217682128896 a) = FP.d2l (FP.dmul 4620693217682128896 b) := by
  rcases e with e | ⟨e1, e2⟩
  · rw [e]
  · rw [e1, e2]
    decide +kernel
theorem ZE.mg {a b : UInt64} {K : Nat} (e : ZE a b) (h : MG K a) (hK : 1108 ≤ K) : MG K b := by
  rcases e with e | ⟨e1, e2⟩
  · rw [← e]; exact h
  · rw [e2]; exact mg_0.mono hK
theorem MG.nan {K : Nat} {a : UInt64} (h : MG K a) (hK : K ≤ 2047) : FP.Core.val64 a ≠ .nan := (ok64_iff a).mp (h.ok hK)
def cbW (op : Nat) (x y : Int64) : Int64 := if op = 1 then (if y < x then y else x) else if op = 2 then (if x < y then y else x) else if op = 3 then x ^^^ y else x + y
def cbR (op : Nat) (x y : UInt64) : UInt64 := if op = 1 then (if 0 ≤ Op.cmpValue (FP.dcmp y x) .g then x else y) else if op = 2 then (if Op.cmpValue (FP.dcmp y x) .l ≤ 0 then x else y) else FP.dadd x y
def fW (op a : Nat) : List Cel → Int64
  | [] => 0
  | c :: t => if t.length = 0 then c.2.1 else nrw a (cbW op (fW op a t) c.2.1)
def fR (op : Nat) : List Cel → UInt64
  | [] => FP.dconst0
  | c :: t => if t.length = 0 then c.2.2 else cbR op (fR op t) c.2.2
def nzC (a : Nat) (c : Cel) : Bool := if a = 7 then !dEq c.2.2 FP.dconst0 else decide (¬ c.2.1 = 0)
def nzL (a : Nat) : List Cel → Nat
  | [] => 0
  | c :: t => nzL a t + (if nzC a c then 1 else 0)
theorem nz_le (a : Nat) : ∀ L, nzL a L ≤ L.length := by
  intro L
  induction L with
  | nil => exact Nat.le_refl _
  | cons c t ih =>
    show nzL a t + (if nzC a c then 1 else 0) ≤ t.length + 1
    split <;> omega
def elOk (a : Nat) (c : Cel) : Prop := MG 1108 c.2.2 ∧ (a = 4 → c.2.1.toInt32.toInt64 = c.2.1)
theorem fR_mg {a op : Nat} : ∀ L : List Cel, (∀ c, c ∈ L → elOk a c) → L.length ≤ 72 → MG (1108 + 2 * L.length) (fR op L) := by
  intro L
  induction L with
  | nil => intro _ _; exact mg_0
  | cons c t ih =>
    intro h hn
    have hn : t.length + 1 ≤ 72 := hn
    have k := ih (fun c hc => h c (List.mem_cons_of_mem _ hc)) (by omega)
    have m := (h c List.mem_cons_self).1
    show MG (1108 + 2 * (t.length + 1)) (if t.length = 0 then c.2.2 else cbR op (fR op t) c.2.2)
    split
    · exact m.mono (by omega)
    · unfold cbR
      split
      · split
        · exact k.mono (by omega)
        · exact m.mono (by omega)
      · split
        · split
          · exact k.mono (by omega)
          · exact m.mono (by omega)
        · rw [show 1108 + 2 * (t.length + 1) = 1108 + 2 * t.length + 2 by omega]
          exact MG.add k (m.mono (by omega)) (by omega)
theorem fW_nx {op : Nat} : ∀ L : List Cel, (∀ c, c ∈ L → elOk 4 c) → (fW op 4 L).toInt32.toInt64 = fW op 4 L := by
  intro L
  cases L with
  | nil => intro _; rfl
  | cons c t =>
    intro h
    show (if t.length = 0 then c.2.1 else nrw 4 (cbW op (fW op 4 t) c.2.1)).toInt32.toInt64 = if t.length = 0 then c.2.1 else nrw 4 (cbW op (fW op 4 t) c.2.1)
    split
    · exact (h c List.mem_cons_self).2 rfl
    · show (cbW op (fW op 4 t) c.2.1).toInt32.toInt64.toInt32.toInt64 = (cbW op (fW op 4 t) c.2.1).toInt32.toInt64
      rw [Int32.toInt32_toInt64]
/-- where a combination is not narrowed by the reference, it needs no narrowing -/
theorem nrw_cb {op a : Nat} {L : List Cel} {c : Cel} (ha : a = 4 ∨ a = 5) (hop : op = 1 ∨ op = 2 ∨ op = 3) (hL : ∀ c, c ∈ L → elOk a c) (hc : elOk a c) : nrw a (cbW op (fW op a L) c.2.1) = cbW op (fW op a L) c.2.1 := by
  rcases ha with e | e
  · subst e
    have h1 := fW_nx (op := op) L hL
    have h2 := hc.2 rfl
    show (cbW op (fW op 4 L) c.2.1).toInt32.toInt64 = _
    unfold cbW
    rcases hop with e | e | e
    · rw [if_pos e]
      split
      · exact h2
      · exact h1
    · rw [if_neg (by omega), if_pos e]
      split
      · exact h2
      · exact h1
    · rw [if_neg (by omega), if_neg (by omega), if_pos e, Int64.toInt32_xor, Int32.toInt64_xor, h1, h2]
  · subst e
    rfl
theorem combW_c {op : Nat} (hop : op ≤ 4) (x y : Int64) : fX10_combineWholes (nI op) x y = dnP (cbW op x y) := by
  have q1 : (nI op = 1) ↔ op = 1 := nI_eq (b := 1) (by omega) (by decide)
  have q2 : (nI op = 2) ↔ op = 2 := nI_eq (b := 2) (by omega) (by decide)
  have q3 : (nI op = 3) ↔ op = 3 := nI_eq (b := 3) (by omega) (by decide)
  unfold fX10_combineWholes cbW fJ9_min_f86c9 fJ9_max_f86c9
  simp only [q1, q2, q3, lg_cmp_gt, lg_cmp_lt]
  funext k
  by_cases e1 : op = 1
  · rw [if_pos e1, if_pos e1]
    split <;> rfl
  · rw [if_neg e1, if_neg e1]
    by_cases e2 : op = 2
    · rw [if_pos e2, if_pos e2]
      split <;> rfl
    · rw [if_neg e2, if_neg e2]
      split <;> rfl
theorem combR_c {op : Nat} (hop : op ≤ 4) {x y : UInt64} (ok : ¬ op = 1 → ¬ op = 2 → ok64 (FP.dadd x y)) : fX10_combineReals (nI op) x y = dnP (cbR op x y) := by
  have q1 : (nI op = 1) ↔ op = 1 := nI_eq (b := 1) (by omega) (by decide)
  have q2 : (nI op = 2) ↔ op = 2 := nI_eq (b := 2) (by omega) (by decide)
  unfold fX10_combineReals cbR
  simp only [q1, q2]
  by_cases e1 : op = 1
  · rw [if_pos e1, if_pos e1]
    split <;> rfl
  · rw [if_neg e1, if_neg e1]
    by_cases e2 : op = 2
    · rw [if_pos e2, if_pos e2]
      split <;> rfl
    · rw [if_neg e2, if_neg e2, n64_ok (ok e1 e2)]
      rfl
def Lc (op a : Nat) (h : dnH) (L : List Cel) : Prop := (a ≠ 7 → h.2.2.1 269 2 = fW op a L) ∧ (a = 7 → h.2.2.2.1 269 3 = fR op L) ∧ h.2.1 269 4 = nI (nzL a L) ∧ h.2.1 269 5 = nI L.length
def Lr (op a : Nat) (h : dnH) (L : List Cel) : Prop := h.2.1 289 19 = nI L.length ∧ (op = 4 → h.2.2.1 289 20 = (nI (nzL a L)).toInt64) ∧ (op ≠ 4 → a ≠ 7 → h.2.2.1 289 20 = fW op a L) ∧ (op = 0 → a = 7 → ZE (fR op L) (h.2.2.2.1 289 21)) ∧ (op = 1 ∨ op = 2 → a = 7 → h.2.2.2.1 289 21 = fR op L)
theorem nI_z {n : Nat} {b : Bool} : nI n + dnZ b = nI (n + if b then 1 else 0) := by
  rw [← nI_add]
  cases b <;> rfl
theorem eqc269 {h0 h h2 : dnH} {S : Nat → Int32} {X : List Nat} {A : Ab} (c : CS h0 S X h A) (e : Eqc (fun z => z ≠ 269) h h2) : CS h0 S X h2 A := c.fr (e.im (fun z hz => by omega))
theorem take118 {h : dnH} (hs : Sh h) (x w : Int64) : fX10_take_j118 (some 269) x (some 269) w h = some (true, dnSI (dnSI (dnSL h 269 2 w) 269 4 (h.2.1 269 4 + dnZ (decide (¬ x = 0)))) 269 5 (h.2.1 269 5 + 1)) := by
  have s1 : Sh (dnSL h 269 2 w) := hs
  have s2 : ∀ v, Sh (dnSI (dnSL h 269 2 w) 269 4 v) := fun _ => hs
  have e4 : (dnSL h 269 2 w).2.1 269 4 = h.2.1 269 4 := rfl
  have e5 : ∀ v, (dnSI (dnSL h 269 2 w) 269 4 v).2.1 269 5 = h.2.1 269 5 := fun v => by simp [dnSI, dnSL, dnSD, dnUp]
  by_cases q : x = 0
  · simp only [fX10_take_j118, fX10_take_j138, fX10_take_j142, dnB_eval, p_269_2 hs, g_269_4 s1, lg_cmp_eq, q, if_true, e4, p_269_4 s1, g_269_5 (s2 _), e5, p_269_5 (s2 _), dnP, not_true_eq_false, decide_false]
  · simp only [fX10_take_j118, fX10_take_j138, fX10_take_j142, dnB_eval, p_269_2 hs, g_269_4 s1, lg_cmp_eq, q, if_false, e4, p_269_4 s1, g_269_5 (s2 _), e5, p_269_5 (s2 _), dnP, not_false_eq_true, decide_true]
theorem take55 {h : dnH} (hs : Sh h) (x w : UInt64) : fX10_take_j55 (some 269) x (some 269) w h = some (true, dnSI (dnSI (dnSD h 269 3 w) 269 4 (h.2.1 269 4 + dnZ (!dEq x FP.dconst0))) 269 5 (h.2.1 269 5 + 1)) := by
  have s1 : Sh (dnSD h 269 3 w) := hs
  have s2 : ∀ v, Sh (dnSI (dnSD h 269 3 w) 269 4 v) := fun _ => hs
  have e4 : (dnSD h 269 3 w).2.1 269 4 = h.2.1 269 4 := rfl
  have e5 : ∀ v, (dnSI (dnSD h 269 3 w) 269 4 v).2.1 269 5 = h.2.1 269 5 := fun v => by simp [dnSI, dnSL, dnSD, dnUp]
  unfold dEq
  by_cases q : Op.cmpValue (FP.dcmp x FP.dconst0) .l = 0
  · simp only [fX10_take_j55, fX10_take_j75, fX10_take_j142, dnB_eval, p_269_3 hs, g_269_4 s1, q, if_true, e4, p_269_4 s1, g_269_5 (s2 _), e5, p_269_5 (s2 _), dnP, decide_true, Bool.not_true]
  · simp only [fX10_take_j55, fX10_take_j75, fX10_take_j142, dnB_eval, p_269_3 hs, g_269_4 s1, q, if_false, e4, p_269_4 s1, g_269_5 (s2 _), e5, p_269_5 (s2 _), dnP, decide_false, Bool.not_false]
theorem take_A {B op a : Nat} (hB : 16 ≤ B) (hB2 : B < 2 ^ 24) (hop : op ≤ 4) (ha : a = 4 ∨ a = 5 ∨ a = 7) {h0 h : dnH} {A : Ab} {r i : Nat} {L : List Cel} (c : CS h0 sp0 [] h A) (hr : r < 31) (hl : live [] A r) (ok : rwOk B (A.2.2.1 r)) (hi : i < 12) (hL : ∀ c, c ∈ L → elOk a c) (hn : L.length ≤ 71) (s : Lc op a h L) (hrd : (decide ((A.2.2.1 r).1 < 8) && tk a (A.2.2.1 r).1) = true) : ∃ h2, fX10_take (some 269) (some (5 + 4 * r)) (nI i) (nI op) (nI a) h = some (true, h2) ∧ CS h0 sp0 [] h2 A ∧ Lc op a h2 (cvt a ((A.2.2.1 r).2.2 i) :: L) ∧ elOk a (cvt a ((A.2.2.1 r).2.2 i)) := by
  obtain ⟨z1, z2⟩ := Bool.and_eq_true_iff.mp hrd
  have oki := ok.2.2 i hi
  have tki : tk a ((A.2.2.1 r).2.2 i).1 = true := by rw [oki.2.2.1 (of_decide_eq_true z1)]; exact z2
  have okx := celOk_cvt hB (show a < 12 by omega) oki.1 tki oki.2.2.2
  have rd := c_readsAs ok.1 (show a < 12 by omega)
  rw [decide_eq_true (show a < 8 by omega), Bool.and_true, hrd] at rd
  have hx : elOk a (cvt a ((A.2.2.1 r).2.2 i)) := by
    refine ⟨val_mg (a := a) hB2 okx.2.2.2, fun e => ?_⟩
    have e1 : (cvt a ((A.2.2.1 r).2.2 i)).1 = a := if_pos (by omega)
    obtain ⟨g1, g2⟩ := okx.2.2.2.1 (by rw [e1]; omega)
    refine Int64.toInt_inj.mp ?_
    rw [Int32.toInt_toInt64, Int64.toInt_toInt32]
    exact Int.bmod_eq_of_le (by omega) (by omega)
  have rr := c.row hr hl
  have a7 : (nI a = 7) ↔ a = 7 := nI_eq (b := 7) (by omega) (by decide)
  have l0 : (nI L.length = 0) ↔ L.length = 0 := nI_eq (b := 0) (by omega) (by decide)
  by_cases q : a = 7
  · have z7 := not_not_intro (a7.mpr q)
    have d1 := doubleAt_A (i := i) (row1 c.1 hr) rr hi oki.1
    have ex : (cvt 7 ((A.2.2.1 r).2.2 i)).2.2 = (cvt a ((A.2.2.1 r).2.2 i)).2.2 := by rw [q]
    rw [ex] at d1
    generalize hxx : cvt a ((A.2.2.1 r).2.2 i) = x at d1 hx ⊢
    have fm := fR_mg (op := op) L hL (by omega)
    have cr : ¬ L.length = 0 → fX10_combineReals (nI op) (fR op L) x.2.2 = dnP (cbR op (fR op L) x.2.2) := fun _ => combR_c hop (fun _ _ => (MG.add fm (hx.1.mono (by omega)) (by omega)).ok (by omega))
    have t55 := take55 c.1 x.2.2 (fR op (x :: L))
    rw [s.2.2.1, s.2.2.2, nI_z, nI_1] at t55
    refine ⟨dnSI (dnSI (dnSD h 269 3 (fR op (x :: L))) 269 4 (nI (nzL a L + if (!dEq x.2.2 FP.dconst0) = true then 1 else 0))) 269 5 (nI (L.length + 1)), ?_, eqc269 (eqc269 (eqc269 c (eqc_SD (fun hc => hc rfl))) (eqc_SI (fun hc => hc rfl))) (eqc_SI (fun hc => hc rfl)), ⟨fun hq => absurd q hq, fun _ => ?_, ?_, ?_⟩, hx⟩
    · rw [← t55]
      by_cases n0 : L.length = 0
      · have y0 := not_not_intro (l0.mpr n0)
        have ef : fR op (x :: L) = x.2.2 := if_pos n0
        rw [ef]
        simp only [fX10_take, Option.elim, dnB_eval, rg_i (row1 c.1 hr), rr.1, rd, dnP, if_true, z7, if_false, rv (row1 c.1 hr), d1, g_269_5 c.1, s.2.2.2, y0]
      · have y0 := mt l0.mp n0
        have ef : fR op (x :: L) = cbR op (fR op L) x.2.2 := if_neg n0
        rw [ef]
        simp only [fX10_take, Option.elim, dnB_eval, rg_i (row1 c.1 hr), rr.1, rd, dnP, if_true, z7, if_false, rv (row1 c.1 hr), d1, g_269_5 c.1, s.2.2.2, y0, not_false_eq_true, g_269_3 c.1, s.2.1 q, cr n0]
    · simp [dnSI, dnSL, dnSD, dnUp]
    · have : nzL a (x :: L) = nzL a L + if (!dEq x.2.2 FP.dconst0) = true then 1 else 0 := by
        show nzL a L + (if (if a = 7 then _ else _) = true then 1 else 0) = _
        rw [if_pos q]
      rw [this]
      simp [dnSI, dnSL, dnSD, dnUp]
    · show _ = nI (L.length + 1)
      simp [dnSI, dnSL, dnSD, dnUp]
  · have z7 := mt a7.mp q
    have na : isRlN a = false := by rcases ha with e | e | e <;> rw [e] at q ⊢ <;> first | rfl | exact absurd rfl q
    have n1 := (rr.2.2 i hi).2.1
    rw [← cvt_num (c := (A.2.2.1 r).2.2 i) na] at n1
    generalize hxx : cvt a ((A.2.2.1 r).2.2 i) = x at n1 hx ⊢
    have t118 := take118 c.1 x.2.1 (fW op a (x :: L))
    rw [s.2.2.1, s.2.2.2, nI_z, nI_1] at t118
    have g1 := dnIn_nI (show i < 12 by omega) (by decide)
    have g2 : (nI i).toNatClampNeg = i := nI_clamp (by omega)
    refine ⟨dnSI (dnSI (dnSL h 269 2 (fW op a (x :: L))) 269 4 (nI (nzL a L + if decide (¬ x.2.1 = 0) = true then 1 else 0))) 269 5 (nI (L.length + 1)), ?_, eqc269 (eqc269 (eqc269 c (eqc_SL (fun hc => hc rfl))) (eqc_SI (fun hc => hc rfl))) (eqc_SI (fun hc => hc rfl)), ⟨fun _ => ?_, fun hq => absurd hq q, ?_, ?_⟩, hx⟩
    · rw [← t118]
      by_cases n0 : L.length = 0
      · have y0 := not_not_intro (l0.mpr n0)
        have ef : fW op a (x :: L) = x.2.1 := if_pos n0
        rw [ef]
        simp only [fX10_take, Option.elim, dnB_eval, rg_i (row1 c.1 hr), rr.1, rd, dnP, if_true, z7, not_false_eq_true, rg_4 (row1 c.1 hr), ra_2 (row1 c.1 hr), g1, g2, n1, g_269_5 c.1, s.2.2.2, y0, if_false]
      · have y0 := mt l0.mp n0
        have ef : fW op a (x :: L) = nrw a (cbW op (fW op a L) x.2.1) := if_neg n0
        rw [ef]
        simp only [fX10_take, Option.elim, dnB_eval, rg_i (row1 c.1 hr), rr.1, rd, dnP, if_true, z7, not_false_eq_true, rg_4 (row1 c.1 hr), ra_2 (row1 c.1 hr), g1, g2, n1, g_269_5 c.1, s.2.2.2, y0, g_269_2 c.1, s.1 q, combW_c hop, narrowed_c (show a < 12 by omega)]
    · simp [dnSI, dnSL, dnSD, dnUp]
    · have : nzL a (x :: L) = nzL a L + if decide (¬ x.2.1 = 0) = true then 1 else 0 := by
        show nzL a L + (if (if a = 7 then _ else _) = true then 1 else 0) = _
        rw [if_neg q]
      rw [this]
      simp [dnSI, dnSL, dnSD, dnUp]
    · show _ = nI (L.length + 1)
      simp [dnSI, dnSL, dnSD, dnUp]
