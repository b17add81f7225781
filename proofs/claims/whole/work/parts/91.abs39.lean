/-! ABS 39: the reference's fold of one cell -/
theorem l_succ {n : Nat} (h : n ≤ 71) : (nI n).toInt64 + 1 = (nI (n + 1)).toInt64 := (by decide +kernel : ∀ n, n ≤ 71 → (nI n).toInt64 + 1 = (nI (n + 1)).toInt64) n h
theorem set20 {h0 h : dnH} {X : List Nat} {A : Ab} (c : RS h0 X h A) (w : Int64) : RS h0 X (dnSL h 289 20 w) A := c.fr (eqc_SL (by unfold Pn; decide)) ⟨(by simp [dnSL, dnUp]), rfl, rfl, rfl, rfl⟩
theorem set21 {h0 h : dnH} {X : List Nat} {A : Ab} (c : RS h0 X h A) (w : UInt64) : RS h0 X (dnSD h 289 21 w) A := c.fr (eqc_SD (by unfold Pn; decide)) ⟨rfl, rfl, rfl, rfl, rfl⟩
theorem set19 {h0 h : dnH} {X : List Nat} {A : Ab} (c : RS h0 X h A) (w : Int32) : RS h0 X (dnSI h 289 19 w) A := c.fr (eqc_SI (by unfold Pn; decide)) ⟨rfl, (by simp [dnSI, dnUp]), (by simp [dnSI, dnUp]), (by simp [dnSI, dnUp]), (by simp [dnSI, dnUp])⟩
theorem foldsNumber_A {op a : Nat} (hop : op ≤ 4) (ha : a = 4 ∨ a = 5) {h0 h : dnH} {A : Ab} {L : List Cel} {x : Cel} (c : RS h0 [] h A) (hL : ∀ c, c ∈ L → elOk a c) (hn : L.length ≤ 71) (hx : elOk a x) (s : Lr op a h L) : ∃ h2, fX13_foldsNumber (some 289) (nI op) (nI a) x.2.1 h = some ((), h2) ∧ RS h0 [] h2 A ∧ h2.2.1 289 19 = h.2.1 289 19 ∧ (op = 4 → h2.2.2.1 289 20 = (nI (nzL a (x :: L))).toInt64) ∧ (op ≠ 4 → h2.2.2.1 289 20 = fW op a (x :: L)) := by
  have q0 : (nI op = 0) ↔ op = 0 := nI_eq (b := 0) (by omega) (by decide)
  have q1 : (nI op = 1) ↔ op = 1 := nI_eq (b := 1) (by omega) (by decide)
  have q3 : (nI op = 3) ↔ op = 3 := nI_eq (b := 3) (by omega) (by decide)
  have q4 : (nI op = 4) ↔ op = 4 := nI_eq (b := 4) (by omega) (by decide)
  have a4 : (nI a = 4) ↔ a = 4 := nI_eq (b := 4) (by omega) (by decide)
  have l0 : (nI L.length = 0) ↔ L.length = 0 := nI_eq (b := 0) (by omega) (by decide)
  have na7 : a ≠ 7 := by omega
  have nz := nz_le a L
  by_cases e4 : op = 4
  · have y4 := not_not_intro (q4.mpr e4)
    have s20 := s.2.1 e4
    have hz : nzL a (x :: L) = nzL a L + if decide (¬ x.2.1 = 0) = true then 1 else 0 := by
      show nzL a L + (if (if a = 7 then _ else _) = true then 1 else 0) = _
      rw [if_neg na7]
    by_cases qx : x.2.1 = 0
    · have hz2 : nzL a (x :: L) = nzL a L := by rw [hz]; simp [qx]
      refine ⟨dnSL h 289 20 ((nI (nzL a L)).toInt64 + 0), ?_, set20 c _, rfl, fun _ => ?_, fun hq => absurd e4 hq⟩
      · simp only [fX13_foldsNumber, fX13_foldsNumber_j21, y4, if_false, dnB_eval, g_289_20 c.1, s20, lg_cmp_eq, qx, if_true, p_289_20 c.1, dnP]
      · rw [hz2, Int64.add_zero]
        simp [dnSI, dnSL, dnSD, dnUp]
    · have hz2 : nzL a (x :: L) = nzL a L + 1 := by rw [hz]; simp [qx]
      refine ⟨dnSL h 289 20 ((nI (nzL a L)).toInt64 + 1), ?_, set20 c _, rfl, fun _ => ?_, fun hq => absurd e4 hq⟩
      · simp only [fX13_foldsNumber, fX13_foldsNumber_j21, y4, if_false, dnB_eval, g_289_20 c.1, s20, lg_cmp_eq, qx, p_289_20 c.1, dnP]
      · rw [hz2, l_succ (by omega)]
        simp [dnSI, dnSL, dnSD, dnUp]
  have y4 := mt q4.mp e4
  have s20 := s.2.2.1 e4 na7
  by_cases e0 : op = 0
  · have y0 := not_not_intro (q0.mpr e0)
    have key : fW op a (x :: L) = nrw a (fW op a L + x.2.1) := by
      show (if L.length = 0 then x.2.1 else nrw a (cbW op (fW op a L) x.2.1)) = _
      split
      · rename_i n0
        have : L = [] := List.length_eq_zero_iff.mp n0
        subst this
        show x.2.1 = nrw a (0 + x.2.1)
        rw [Int64.zero_add]
        rcases ha with e | e
        · rw [e]
          exact (hx.2 e).symm
        · rw [e]
          rfl
      · unfold cbW
        rw [if_neg (by omega), if_neg (by omega), if_neg (by omega)]
    refine ⟨dnSL h 289 20 (fW op a (x :: L)), ?_, set20 c _, rfl, fun hq => absurd hq e4, fun _ => by simp [dnSI, dnSL, dnSD, dnUp]⟩
    rw [key]
    rcases ha with e | e
    · have z4 := not_not_intro (a4.mpr e)
      have ek : nrw a (fW op a L + x.2.1) = (fW op a L + x.2.1).toInt32.toInt64 := by rw [e]; rfl
      rw [ek]
      simp only [fX13_foldsNumber, fX13_foldsNumber_j55, y4, not_false_eq_true, if_true, y0, if_false, z4, dnB_eval, g_289_20 c.1, s20, p_289_20 c.1, dnP]
    · have z4 : ¬ nI a = 4 := mt a4.mp (by omega)
      have ek : nrw a (fW op a L + x.2.1) = fW op a L + x.2.1 := by rw [e]; rfl
      rw [ek]
      simp only [fX13_foldsNumber, fX13_foldsNumber_j55, y4, not_false_eq_true, if_true, y0, if_false, z4, dnB_eval, g_289_20 c.1, s20, p_289_20 c.1, dnP]
  have y0 := mt q0.mp e0
  by_cases e3 : op = 3
  · have y3 := not_not_intro (q3.mpr e3)
    have key : fW op a (x :: L) = fW op a L ^^^ x.2.1 := by
      show (if L.length = 0 then x.2.1 else nrw a (cbW op (fW op a L) x.2.1)) = _
      split
      · rename_i n0
        have : L = [] := List.length_eq_zero_iff.mp n0
        subst this
        show x.2.1 = 0 ^^^ x.2.1
        rw [Int64.zero_xor]
      · rw [nrw_cb ha (.inr (.inr e3)) hL hx]
        unfold cbW
        rw [if_neg (by omega), if_neg (by omega), if_pos e3]
    refine ⟨dnSL h 289 20 (fW op a (x :: L)), ?_, set20 c _, rfl, fun hq => absurd hq e4, fun _ => by simp [dnSI, dnSL, dnSD, dnUp]⟩
    rw [key]
    simp only [fX13_foldsNumber, y4, not_false_eq_true, if_true, y0, y3, if_false, dnB_eval, g_289_20 c.1, s20, p_289_20 c.1, dnP]
  have y3 := mt q3.mp e3
  by_cases n0 : L.length = 0
  · have m0 : h.2.1 289 19 = 0 := by rw [s.1]; exact l0.mpr n0
    have key : fW op a (x :: L) = x.2.1 := if_pos n0
    refine ⟨dnSL h 289 20 (fW op a (x :: L)), ?_, set20 c _, rfl, fun hq => absurd hq e4, fun _ => by simp [dnSI, dnSL, dnSD, dnUp]⟩
    rw [key]
    simp only [fX13_foldsNumber, fX13_foldsNumber_j112, y4, not_false_eq_true, if_true, y0, y3, dnB_eval, g_289_19 c.1, m0, p_289_20 c.1, dnP]
  have m0 : ¬ h.2.1 289 19 = 0 := by rw [s.1]; exact mt l0.mp n0
  have hkey : fW op a (x :: L) = cbW op (fW op a L) x.2.1 := by
    show (if L.length = 0 then x.2.1 else nrw a (cbW op (fW op a L) x.2.1)) = _
    rw [if_neg n0, nrw_cb ha (by omega) hL hx]
  by_cases e1 : op = 1
  · have y1 := not_not_intro (q1.mpr e1)
    by_cases qx : x.2.1 < fW op a L
    · have key : fW op a (x :: L) = x.2.1 := by rw [hkey]; unfold cbW; rw [if_pos e1, if_pos qx]
      have z : ¬ 0 ≤ lg_cmp x.2.1 (fW op a L) := by rw [lg_cmp_ge]; exact Int64.not_le.mpr qx
      refine ⟨dnSL h 289 20 (fW op a (x :: L)), ?_, set20 c _, rfl, fun hq => absurd hq e4, fun _ => by simp [dnSI, dnSL, dnSD, dnUp]⟩
      rw [key]
      simp only [fX13_foldsNumber, fX13_foldsNumber_j112, y4, not_false_eq_true, if_true, y0, y3, dnB_eval, g_289_19 c.1, m0, if_false, y1, g_289_20 c.1, s20, z, p_289_20 c.1, dnP]
    · have key : fW op a (x :: L) = fW op a L := by rw [hkey]; unfold cbW; rw [if_pos e1, if_neg qx]
      have z : 0 ≤ lg_cmp x.2.1 (fW op a L) := by rw [lg_cmp_ge]; exact Int64.not_lt.mp qx
      refine ⟨h, ?_, c, rfl, fun hq => absurd hq e4, fun _ => by rw [key]; exact s20⟩
      simp only [fX13_foldsNumber, fX13_foldsNumber_j112, y4, not_false_eq_true, if_true, y0, y3, dnB_eval, g_289_19 c.1, m0, if_false, y1, g_289_20 c.1, s20, z, dnP]
  have y1 := mt q1.mp e1
  have e2 : op = 2 := by omega
  by_cases qx : fW op a L < x.2.1
  · have key : fW op a (x :: L) = x.2.1 := by rw [hkey]; unfold cbW; rw [if_neg e1, if_pos e2, if_pos qx]
    have z : ¬ lg_cmp x.2.1 (fW op a L) ≤ 0 := by rw [lg_cmp_le]; exact Int64.not_le.mpr qx
    refine ⟨dnSL h 289 20 (fW op a (x :: L)), ?_, set20 c _, rfl, fun hq => absurd hq e4, fun _ => by simp [dnSI, dnSL, dnSD, dnUp]⟩
    rw [key]
    simp only [fX13_foldsNumber, fX13_foldsNumber_j112, y4, not_false_eq_true, if_true, y0, y3, dnB_eval, g_289_19 c.1, m0, if_false, y1, g_289_20 c.1, s20, z, p_289_20 c.1, dnP]
  · have key : fW op a (x :: L) = fW op a L := by rw [hkey]; unfold cbW; rw [if_neg e1, if_pos e2, if_neg qx]
    have z : lg_cmp x.2.1 (fW op a L) ≤ 0 := by rw [lg_cmp_le]; exact Int64.not_lt.mp qx
    refine ⟨h, ?_, c, rfl, fun hq => absurd hq e4, fun _ => by rw [key]; exact s20⟩
    simp only [fX13_foldsNumber, fX13_foldsNumber_j112, y4, not_false_eq_true, if_true, y0, y3, dnB_eval, g_289_19 c.1, m0, if_false, y1, g_289_20 c.1, s20, z, dnP]
theorem foldsReal_A {op : Nat} (hop : op ≤ 4) (h3 : op ≠ 3) {h0 h : dnH} {A : Ab} {L : List Cel} {x : Cel} (c : RS h0 [] h A) (hL : ∀ c, c ∈ L → elOk 7 c) (hn : L.length ≤ 71) (hx : elOk 7 x) (s : Lr op 7 h L) : ∃ h2, fX13_foldsReal (some 289) (nI op) x.2.2 h = some ((), h2) ∧ RS h0 [] h2 A ∧ h2.2.1 289 19 = h.2.1 289 19 ∧ (op = 4 → h2.2.2.1 289 20 = (nI (nzL 7 (x :: L))).toInt64) ∧ (op = 0 → ZE (fR op (x :: L)) (h2.2.2.2.1 289 21)) ∧ (op = 1 ∨ op = 2 → h2.2.2.2.1 289 21 = fR op (x :: L)) := by
  have q0 : (nI op = 0) ↔ op = 0 := nI_eq (b := 0) (by omega) (by decide)
  have q1 : (nI op = 1) ↔ op = 1 := nI_eq (b := 1) (by omega) (by decide)
  have q3 : (nI op = 3) ↔ op = 3 := nI_eq (b := 3) (by omega) (by decide)
  have q4 : (nI op = 4) ↔ op = 4 := nI_eq (b := 4) (by omega) (by decide)
  have l0 : (nI L.length = 0) ↔ L.length = 0 := nI_eq (b := 0) (by omega) (by decide)
  have nz := nz_le 7 L
  have hxn : FP.Core.val64 x.2.2 ≠ .nan := hx.1.nan (by decide)
  have fm := fR_mg (op := op) L hL (by omega)
  by_cases e4 : op = 4
  · have y4 := not_not_intro (q4.mpr e4)
    have s20 := s.2.1 e4
    have hz : nzL 7 (x :: L) = nzL 7 L + if (!dEq x.2.2 FP.dconst0) = true then 1 else 0 := rfl
    by_cases qx : Op.cmpValue (FP.dcmp x.2.2 FP.dconst0) .l = 0
    · have hz2 : nzL 7 (x :: L) = nzL 7 L := by rw [hz]; unfold dEq; rw [decide_eq_true qx]; rfl
      refine ⟨dnSL h 289 20 ((nI (nzL 7 L)).toInt64 + 0), ?_, set20 c _, rfl, fun _ => ?_, fun hq => by omega, fun hq => by omega⟩
      · simp only [fX13_foldsReal, fX13_foldsReal_j21, y4, if_false, dnB_eval, g_289_20 c.1, s20, qx, if_true, p_289_20 c.1, dnP]
      · rw [hz2, Int64.add_zero]
        simp [dnSI, dnSL, dnSD, dnUp]
    · have hz2 : nzL 7 (x :: L) = nzL 7 L + 1 := by rw [hz]; unfold dEq; rw [decide_eq_false qx]; rfl
      refine ⟨dnSL h 289 20 ((nI (nzL 7 L)).toInt64 + 1), ?_, set20 c _, rfl, fun _ => ?_, fun hq => by omega, fun hq => by omega⟩
      · simp only [fX13_foldsReal, fX13_foldsReal_j21, y4, if_false, dnB_eval, g_289_20 c.1, s20, qx, p_289_20 c.1, dnP]
      · rw [hz2, l_succ (by omega)]
        simp [dnSI, dnSL, dnSD, dnUp]
  have y4 := mt q4.mp e4
  by_cases e0 : op = 0
  · have y0 := not_not_intro (q0.mpr e0)
    have z := s.2.2.2.1 e0 rfl
    have zm := z.mg fm (by omega)
    have ok : ok64 (FP.dadd (h.2.2.2.1 289 21) x.2.2) := (MG.add zm (hx.1.mono (by omega)) (by omega)).ok (by omega)
    refine ⟨dnSD h 289 21 (FP.dadd (h.2.2.2.1 289 21) x.2.2), ?_, set21 c _, rfl, fun hq => by omega, fun _ => ?_, fun hq => by omega⟩
    · simp only [fX13_foldsReal, y4, not_false_eq_true, if_true, y0, if_false, dnB_eval, g_289_21 c.1, n64_ok ok, p_289_21 c.1, dnP]
    · have e : (dnSD h 289 21 (FP.dadd (h.2.2.2.1 289 21) x.2.2)).2.2.2.1 289 21 = FP.dadd (h.2.2.2.1 289 21) x.2.2 := by simp [dnSI, dnSL, dnSD, dnUp]
      rw [e]
      show ZE (if L.length = 0 then x.2.2 else cbR op (fR op L) x.2.2) _
      split
      · rename_i n0
        have : L = [] := List.length_eq_zero_iff.mp n0
        subst this
        have z : ZE FP.dconst0 (h.2.2.2.1 289 21) := z
        rcases z with z | ⟨z, -⟩
        · rw [← z]
          exact ze_first hxn
        · exact absurd z (by decide)
      · unfold cbR
        rw [if_neg (by omega), if_neg (by omega)]
        exact z.add hxn
  have y0 := mt q0.mp e0
  have s21 := s.2.2.2.2 (by omega) rfl
  by_cases n0 : L.length = 0
  · have m0 : h.2.1 289 19 = 0 := by rw [s.1]; exact l0.mpr n0
    have key : fR op (x :: L) = x.2.2 := if_pos n0
    refine ⟨dnSD h 289 21 (fR op (x :: L)), ?_, set21 c _, rfl, fun hq => absurd hq e4, fun hq => absurd hq e0, fun _ => by simp [dnSI, dnSL, dnSD, dnUp]⟩
    rw [key]
    simp only [fX13_foldsReal, fX13_foldsReal_j78, y4, not_false_eq_true, if_true, y0, dnB_eval, g_289_19 c.1, m0, p_289_21 c.1, dnP]
  have m0 : ¬ h.2.1 289 19 = 0 := by rw [s.1]; exact mt l0.mp n0
  have hkey : fR op (x :: L) = cbR op (fR op L) x.2.2 := if_neg n0
  by_cases e1 : op = 1
  · have y1 := not_not_intro (q1.mpr e1)
    by_cases qx : 0 ≤ Op.cmpValue (FP.dcmp x.2.2 (fR op L)) .g
    · have key : fR op (x :: L) = fR op L := by rw [hkey]; unfold cbR; rw [if_pos e1, if_pos qx]
      refine ⟨h, ?_, c, rfl, fun hq => absurd hq e4, fun hq => absurd hq e0, fun _ => by rw [key]; exact s21⟩
      simp only [fX13_foldsReal, fX13_foldsReal_j78, y4, not_false_eq_true, if_true, y0, dnB_eval, g_289_19 c.1, m0, if_false, y1, g_289_21 c.1, s21, qx, dnP]
    · have key : fR op (x :: L) = x.2.2 := by rw [hkey]; unfold cbR; rw [if_pos e1, if_neg qx]
      refine ⟨dnSD h 289 21 (fR op (x :: L)), ?_, set21 c _, rfl, fun hq => absurd hq e4, fun hq => absurd hq e0, fun _ => by simp [dnSI, dnSL, dnSD, dnUp]⟩
      rw [key]
      simp only [fX13_foldsReal, fX13_foldsReal_j78, y4, not_false_eq_true, if_true, y0, dnB_eval, g_289_19 c.1, m0, if_false, y1, g_289_21 c.1, s21, qx, p_289_21 c.1, dnP]
  have y1 := mt q1.mp e1
  have e2 : op = 2 := by omega
  by_cases qx : Op.cmpValue (FP.dcmp x.2.2 (fR op L)) .l ≤ 0
  · have key : fR op (x :: L) = fR op L := by rw [hkey]; unfold cbR; rw [if_neg e1, if_pos e2, if_pos qx]
    refine ⟨h, ?_, c, rfl, fun hq => absurd hq e4, fun hq => absurd hq e0, fun _ => by rw [key]; exact s21⟩
    simp only [fX13_foldsReal, fX13_foldsReal_j78, y4, not_false_eq_true, if_true, y0, dnB_eval, g_289_19 c.1, m0, if_false, y1, g_289_21 c.1, s21, qx, dnP]
  · have key : fR op (x :: L) = x.2.2 := by rw [hkey]; unfold cbR; rw [if_neg e1, if_pos e2, if_neg qx]
    refine ⟨dnSD h 289 21 (fR op (x :: L)), ?_, set21 c _, rfl, fun hq => absurd hq e4, fun hq => absurd hq e0, fun _ => by simp [dnSI, dnSL, dnSD, dnUp]⟩
    rw [key]
    simp only [fX13_foldsReal, fX13_foldsReal_j78, y4, not_false_eq_true, if_true, y0, dnB_eval, g_289_19 c.1, m0, if_false, y1, g_289_21 c.1, s21, qx, p_289_21 c.1, dnP]
theorem foldsCell_A {B op a : Nat} (hB : 16 ≤ B) (hB2 : B < 2 ^ 24) (hop : op ≤ 4) (ha : a = 4 ∨ a = 5 ∨ a = 7) (h37 : op = 3 → a ≠ 7) {h0 h : dnH} {A : Ab} {r i : Nat} {L : List Cel} (c : RS h0 [] h A) (hr : r < 31) (hl : live [] A r) (ok : rwOk B (A.2.2.1 r)) (hi : i < 12) (hL : ∀ c, c ∈ L → elOk a c) (hn : L.length ≤ 71) (hx : elOk a (cvt a ((A.2.2.1 r).2.2 i))) (s : Lr op a h L) (hrd : (decide ((A.2.2.1 r).1 < 8) && tk a (A.2.2.1 r).1) = true) : ∃ h2, fX13_foldsCell (some 289) (nI r) (nI i) (nI op) (nI a) h = some (true, h2) ∧ RS h0 [] h2 A ∧ Lr op a h2 (cvt a ((A.2.2.1 r).2.2 i) :: L) := by
  obtain ⟨z1, z2⟩ := Bool.and_eq_true_iff.mp hrd
  have oki := ok.2.2 i hi
  have tki : tk a ((A.2.2.1 r).2.2 i).1 = true := by rw [oki.2.2.1 (of_decide_eq_true z1)]; exact z2
  have ird := isReadable_A c hr hl ok.1 (show a < 12 by omega)
  rw [hrd] at ird
  obtain ⟨k2, k3, u1, u2, u3, u4, u5, u6⟩ := lw_A (B := B) (i := i) c hr hl hi (show a < 8 by omega) oki tki
  generalize cvt a ((A.2.2.1 r).2.2 i) = x at u5 hx ⊢
  have s3 : Lr op a k3 L := ⟨u6.1.trans s.1, fun e => u6.2.1.trans (s.2.1 e), fun e e2 => u6.2.1.trans (s.2.2.1 e e2), fun e e2 => by rw [u6.2.2]; exact s.2.2.2.1 e e2, fun e e2 => u6.2.2.trans (s.2.2.2.2 e e2)⟩
  have a7 : (nI a = 7) ↔ a = 7 := nI_eq (b := 7) (by omega) (by decide)
  by_cases q : a = 7
  · have z7 := not_not_intro (a7.mpr q)
    have hL7 : ∀ c, c ∈ L → elOk 7 c := fun c hc => by have := hL c hc; rw [q] at this; exact this
    have hx7 : elOk 7 x := by rw [q] at hx; exact hx
    have s7 : Lr op 7 k3 L := by rw [q] at s3; exact s3
    obtain ⟨h2, f1, f2, f3, f4, f5, f6⟩ := foldsReal_A hop (fun e => h37 e q) u4 hL7 hn hx7 s7
    have e19 : h2.2.1 289 19 = nI L.length := f3.trans s3.1
    refine ⟨dnSI h2 289 19 (nI (L.length + 1)), ?_, set19 f2 _, by simp [dnSI, dnSL, dnSD, dnUp], fun e => ?_, fun e e2 => absurd q e2, fun e _ => f5 e, fun e _ => f6 e⟩
    · simp only [fX13_foldsCell, fX13_foldsCell_j54, dnB_eval, v_289 c.1, ird, if_true, u1, v_289 u2.1, u3, z7, if_false, g_289_14 u4.1, u5.2.2, v_289 u4.1, f1, g_289_19 f2.1, e19, nI_1, p_289_19 f2.1, dnP]
    · rw [q]
      exact f4 e
  · have z7 := mt a7.mp q
    obtain ⟨h2, f1, f2, f3, f4, f5⟩ := foldsNumber_A hop (by omega) u4 hL hn hx s3
    have e19 : h2.2.1 289 19 = nI L.length := f3.trans s3.1
    refine ⟨dnSI h2 289 19 (nI (L.length + 1)), ?_, set19 f2 _, by simp [dnSI, dnSL, dnSD, dnUp], fun e => f4 e, fun e _ => f5 e, fun e e2 => absurd e2 q, fun e e2 => absurd e2 q⟩
    simp only [fX13_foldsCell, fX13_foldsCell_j54, dnB_eval, v_289 c.1, ird, if_true, u1, v_289 u2.1, u3, z7, not_false_eq_true, g_289_13 u4.1, u5.2.1, v_289 u4.1, f1, g_289_19 f2.1, e19, nI_1, p_289_19 f2.1, dnP]
