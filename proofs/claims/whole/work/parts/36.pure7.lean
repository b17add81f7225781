/-! PURE 7: a value made; the reference's value at hand -/
theorem dnUp_id {α : Type} {f : Nat → Nat → α} {a k : Nat} {v : α} (h : f a k = v) : dnUp f a k v = f := by rw [← h, dnUp_self]
theorem dnUp_two {α : Type} {f : Nat → Nat → α} {a k : Nat} {u v : α} : dnUp (dnUp f a k u) a k v = dnUp f a k v := by
  funext x y
  unfold dnUp
  split <;> rfl
def nrw (s : Nat) (v : Int64) : Int64 := if s = 0 then v &&& 1 else if s = 1 then v.toInt32.toInt8.toInt32.toInt64 else if s = 2 then (v.toInt32.toUInt32 % 65536).toInt32.toInt64 else if s = 3 then v.toInt32.toInt16.toInt32.toInt64 else if s = 4 then v.toInt32.toInt64 else v
theorem narrowed_c {s : Nat} (hs : s < 12) (v : Int64) : fX12_narrowed (nI s) v = dnP (nrw s v) := by
  have q0 : (nI s = 0) ↔ s = 0 := nI_eq (b := 0) (by omega) (by decide)
  have q1 : (nI s = 1) ↔ s = 1 := nI_eq (b := 1) (by omega) (by decide)
  have q2 : (nI s = 2) ↔ s = 2 := nI_eq (b := 2) (by omega) (by decide)
  have q3 : (nI s = 3) ↔ s = 3 := nI_eq (b := 3) (by omega) (by decide)
  have q4 : (nI s = 4) ↔ s = 4 := nI_eq (b := 4) (by omega) (by decide)
  unfold fX12_narrowed nrw
  simp only [q0, q1, q2, q3, q4]
  repeat' split
  all_goals rfl
def mkN (s : Nat) (v : Int64) : Int64 := if s ≤ 5 then nrw s v else if s = 6 then 0 else if s = 7 then 0 else if s < 11 then v &&& 3 else 0
def mkD (s : Nat) (v : Int64) : UInt64 := if s = 6 then FP.f2d (FP.fdiv (FP.l2f v) 1090519040) else if s = 7 then FP.ddiv (FP.l2d v) 4620693217682128896 else FP.dconst0
def mkOk (s : Nat) (v : Int64) : Prop := (s = 6 → ok32 (FP.fdiv (FP.l2f v) 1090519040) ∧ ok64 (FP.f2d (FP.fdiv (FP.l2f v) 1090519040))) ∧ (s = 7 → ok64 (FP.ddiv (FP.l2d v) 4620693217682128896))
theorem rb_L {h : dnH} {a kd : Nat} {n : Int32} {i : Nat} (hi : i < 12) : (rowBeg h a kd n).2.2.1 (a + 2) i = 0 := by
  show dnUpA _ _ _ _ _ = _
  unfold dnUpA
  rw [if_pos rfl]
  exact if_pos hi
theorem rb_D {h : dnH} {a kd : Nat} {n : Int32} {i : Nat} (hi : i < 12) : (rowBeg h a kd n).2.2.2.1 (a + 3) i = FP.dconst0 := by
  show dnUpA _ _ _ _ _ = _
  unfold dnUpA
  rw [if_pos rfl]
  exact if_pos hi
theorem become_c {h : dnH} {a s : Nat} (ha : RowAt h a) (hs : s < 12) {v : Int64} (hok : mkOk s v) : fX5_become (some a) (nI s) v h = some ((), wr (rowBeg h a 8 1) a 0 (nI s) (mkN s v) (mkD s v)) := by
  have g5 : (5 < nI s) ↔ ¬ s ≤ 5 := by rw [show (5 : Int32) = nI 5 from rfl, nI_ltI (by omega) (by omega)]; omega
  have q6 : (nI s = 6) ↔ s = 6 := nI_eq (b := 6) (by omega) (by decide)
  have q7 : (nI s = 7) ↔ s = 7 := nI_eq (b := 7) (by omega) (by decide)
  have q11 : (11 ≤ nI s) ↔ ¬ s < 11 := by rw [show (11 : Int32) = nI 11 from rfl, nI_leI (by omega) (by omega)]; omega
  have i0 : dnIn 0 12 = true := by decide
  have c0 : (0 : Int32).toNatClampNeg = 0 := by decide
  have hb : RowAt (rowBeg h a 8 1) a := ha
  have hb1 : RowAt (dnSI (rowBeg h a 8 1) (a + 1) 0 (nI s)) a := ha
  have e8 : fX5_begin (some a) 8 1 h = some ((), rowBeg h a 8 1) := begin_c ha (kd := 8) (by decide) 1
  simp only [fX5_become, dnB_eval, rv ha, e8, rg_3 hb, rt_1 hb, i0, c0, if_true, g5, q6, q7, q11]
  have zL := rb_L (h := h) (a := a) (kd := 8) (n := 1) (i := 0) (by decide)
  have zD := rb_D (h := h) (a := a) (kd := 8) (n := 1) (i := 0) (by decide)
  have hL : ∀ x : Int64, dnSL (dnSI (rowBeg h a 8 1) (a + 1) 0 (nI s)) (a + 2) 0 x = wr (rowBeg h a 8 1) a 0 (nI s) x FP.dconst0 := fun x => by
    unfold wr dnSD
    rw [dnUp_id]
    exact zD
  have hD : ∀ x : UInt64, dnSD (dnSI (rowBeg h a 8 1) (a + 1) 0 (nI s)) (a + 3) 0 x = wr (rowBeg h a 8 1) a 0 (nI s) 0 x := fun x => by
    unfold wr dnSL
    rw [dnUp_id]
    exact zL
  have h0 : dnSI (rowBeg h a 8 1) (a + 1) 0 (nI s) = wr (rowBeg h a 8 1) a 0 (nI s) 0 FP.dconst0 := by
    rw [← hD]
    unfold dnSD
    rw [dnUp_id]
    exact zD
  unfold mkN mkD
  by_cases c5 : s ≤ 5
  · have n6 : ¬ s = 6 := by omega
    have n7 : ¬ s = 7 := by omega
    simp only [c5, n6, n7, not_true_eq_false, if_true, if_false, dnB_eval, rg_4 hb1, narrowed_c hs, dnP, rt_2 hb1, i0, c0, hL]
  · by_cases c6 : s = 6
    · obtain ⟨o1, o2⟩ := hok.1 c6
      subst c6
      simp only [c5, not_false_eq_true, not_true_eq_false, if_true, if_false, dnB_eval, rg_5 hb1, n32_ok o1, n64_ok o2, dnP, rt_3 hb1, i0, c0, hD]
    · by_cases c7 : s = 7
      · have o3 := hok.2 c7
        subst c7
        simp only [c5, c6, not_false_eq_true, not_true_eq_false, if_true, if_false, dnB_eval, rg_5 hb1, n64_ok o3, dnP, rt_3 hb1, i0, c0, hD]
      · by_cases c11 : s < 11
        · simp only [c5, c6, c7, c11, not_false_eq_true, not_true_eq_false, if_true, if_false, dnB_eval, rg_4 hb1, dnP, rt_2 hb1, i0, c0, hL]
        · simp only [c5, c6, c7, c11, not_false_eq_true, not_true_eq_false, if_true, if_false, dnP, h0]
def setV (h : dnH) (s : Int32) (n : Int64) (d : UInt64) : dnH := dnSD (dnSL (dnSI h 289 12 s) 289 13 n) 289 14 d
theorem makes_r {h : dnH} (hh : Sh h) {s : Nat} (hs : s < 12) {v : Int64} (hok : mkOk s v) : fX13_makes (some 289) (nI s) v h = some ((), setV h (nI s) (mkN s v) (mkD s v)) := by
  have q0 : (nI s = 0) ↔ s = 0 := nI_eq (b := 0) (by omega) (by decide)
  have q1 : (nI s = 1) ↔ s = 1 := nI_eq (b := 1) (by omega) (by decide)
  have q2 : (nI s = 2) ↔ s = 2 := nI_eq (b := 2) (by omega) (by decide)
  have q3 : (nI s = 3) ↔ s = 3 := nI_eq (b := 3) (by omega) (by decide)
  have q4 : (nI s = 4) ↔ s = 4 := nI_eq (b := 4) (by omega) (by decide)
  have q5 : (nI s = 5) ↔ s = 5 := nI_eq (b := 5) (by omega) (by decide)
  have q6 : (nI s = 6) ↔ s = 6 := nI_eq (b := 6) (by omega) (by decide)
  have q7 : (nI s = 7) ↔ s = 7 := nI_eq (b := 7) (by omega) (by decide)
  have q11 : (nI s = 11) ↔ s = 11 := nI_eq (b := 11) (by omega) (by decide)
  have h1 : Sh (dnSI h 289 12 (nI s)) := hh
  have h2 : Sh (dnSD (dnSI h 289 12 (nI s)) 289 14 FP.dconst0) := hh
  have h3 : ∀ x, Sh (dnSL (dnSD (dnSI h 289 12 (nI s)) 289 14 FP.dconst0) 289 13 x) := fun _ => hh
  have hL : ∀ x, dnSL (dnSD (dnSI h 289 12 (nI s)) 289 14 FP.dconst0) 289 13 x = setV h (nI s) x FP.dconst0 := fun _ => rfl
  have hD : ∀ x y, dnSD (dnSL (dnSD (dnSI h 289 12 (nI s)) 289 14 FP.dconst0) 289 13 x) 289 14 y = setV h (nI s) x y := fun x y => by
    unfold setV dnSD dnSL
    simp only [dnUp_two]
  simp only [fX13_makes, fX13_makes_j169, dnB_eval, p_289_12 hh, p_289_14 h1, q0, q1, q2, q3, q4, q5, q6, q7, q11]
  unfold mkN mkD nrw
  rcases (by omega : s = 0 ∨ s = 1 ∨ s = 2 ∨ s = 3 ∨ s = 4 ∨ s = 5 ∨ s = 6 ∨ s = 7 ∨ s = 8 ∨ s = 9 ∨ s = 10 ∨ s = 11) with c | c | c | c | c | c | c | c | c | c | c | c
  · subst c; simp [dnB_eval, p_289_13 h2, dnP, hL]
  · subst c; simp [dnB_eval, p_289_13 h2, dnP, hL]
  · subst c; simp [dnB_eval, p_289_13 h2, dnP, hL]
  · subst c; simp [dnB_eval, p_289_13 h2, dnP, hL]
  · subst c; simp [dnB_eval, p_289_13 h2, dnP, hL]
  · subst c; simp [dnB_eval, p_289_13 h2, dnP, hL]
  · obtain ⟨o1, o2⟩ := hok.1 c
    subst c
    simp [dnB_eval, p_289_13 h2, n32_ok o1, n64_ok o2, p_289_14 (h3 _), dnP, hD]
  · have o3 := hok.2 c
    subst c
    simp [dnB_eval, p_289_13 h2, n64_ok o3, p_289_14 (h3 _), dnP, hD]
  · subst c; simp [dnB_eval, p_289_13 h2, dnP, hL]
  · subst c; simp [dnB_eval, p_289_13 h2, dnP, hL]
  · subst c; simp [dnB_eval, p_289_13 h2, dnP, hL]
  · subst c; simp [dnB_eval, p_289_13 h2, dnP, hL]

def wrR (h : dnH) (x : Nat) (s : Int32) (n : Int64) (d : UInt64) : dnH := dnSD (dnSL (dnSI h 296 x s) 297 x n) 298 x d
theorem nI_mul (a b : Nat) : nI a * nI b = nI (a * b) := (Int32.ofNat_mul a b).symm
theorem at_r (r i : Nat) : (12 * nI r) + nI i = nI (12 * r + i) := by rw [show (12 : Int32) = nI 12 from rfl, nI_mul, nI_add]
theorem loads_r {h : dnH} (hh : Sh h) {r i : Nat} (hr : r < 32) (hi : i < 12) : fX13_loads (some 289) (nI r) (nI i) h = some ((), setV h (h.2.1 296 (12 * r + i)) (h.2.2.1 297 (12 * r + i)) (h.2.2.2.1 298 (12 * r + i))) := by
  have e1 := dnIn_nI (show 12 * r + i < 384 by omega) (by decide)
  have e2 : (nI (12 * r + i)).toNatClampNeg = 12 * r + i := nI_clamp (by omega)
  have h1 : ∀ x, Sh (dnSI h 289 12 x) := fun _ => hh
  have h2 : ∀ x y, Sh (dnSL (dnSI h 289 12 x) 289 13 y) := fun _ _ => hh
  simp only [fX13_loads, at_r, dnB_eval, g_289_9 hh, a_296 hh, e1, e2, if_true, p_289_12 hh, g_289_10 (h1 _), a_297 (h1 _), p_289_13 (h1 _), g_289_11 (h2 _ _), a_298 (h2 _ _), p_289_14 (h2 _ _), dnP]
  rfl
theorem lays_r {h : dnH} (hh : Sh h) {r i : Nat} (hr : r < 32) (hi : i < 12) : fX13_lays (some 289) (nI r) (nI i) h = some ((), wrR h (12 * r + i) (h.2.1 289 12) (h.2.2.1 289 13) (h.2.2.2.1 289 14)) := by
  have e1 := dnIn_nI (show 12 * r + i < 384 by omega) (by decide)
  have e2 : (nI (12 * r + i)).toNatClampNeg = 12 * r + i := nI_clamp (by omega)
  have h1 : ∀ x, Sh (dnSI h 296 (12 * r + i) x) := fun _ => hh
  have h2 : ∀ x y, Sh (dnSL (dnSI h 296 (12 * r + i) x) 297 (12 * r + i) y) := fun _ _ => hh
  simp only [fX13_lays, at_r, dnB_eval, g_289_9 hh, g_289_12 hh, t_296 hh, e1, e2, if_true, g_289_10 (h1 _), g_289_13 (h1 _), t_297 (h1 _), g_289_11 (h2 _ _), g_289_14 (h2 _ _), t_298 (h2 _ _), dnP]
  rfl
def cvNr (kd s : Nat) (n : Int64) : Int64 := if isRlN kd && decide (s < 6) then 0 else n
def cvRr (kd s : Nat) (n : Int64) (d : UInt64) : UInt64 := if s < 6 then (if kd = 6 then FP.f2d (FP.l2f n) else if kd = 7 then FP.l2d n else d) else d
theorem widens_r {h : dnH} (hh : Sh h) {kd s : Nat} (hkd : kd < 12) (hs : s < 12) (hv : h.2.1 289 12 = nI s) (hok : kd = 6 → s < 6 → ok64 (FP.f2d (FP.l2f (h.2.2.1 289 13)))) : fX13_widens (some 289) (nI kd) h = some ((), setV h (nI kd) (cvNr kd s (h.2.2.1 289 13)) (cvRr kd s (h.2.2.1 289 13) (h.2.2.2.1 289 14))) := by
  have q6 : (nI kd = 6) ↔ kd = 6 := nI_eq (b := 6) (by omega) (by decide)
  have q7 : (nI kd = 7) ↔ kd = 7 := nI_eq (b := 7) (by omega) (by decide)
  have g6 : (6 ≤ nI s) ↔ ¬ s < 6 := by rw [show (6 : Int32) = nI 6 from rfl, nI_leI (by omega) (by omega)]; omega
  have hV : setV h (nI kd) (h.2.2.1 289 13) (h.2.2.2.1 289 14) = dnSI h 289 12 (nI kd) := by
    show (h.1, dnUp h.2.1 289 12 (nI kd), dnUp h.2.2.1 289 13 (h.2.2.1 289 13), dnUp h.2.2.2.1 289 14 (h.2.2.2.1 289 14), h.2.2.2.2) = _
    rw [dnUp_self, dnUp_self]
    rfl
  have h1 : ∀ x, Sh (dnSD h 289 14 x) := fun _ => hh
  have h2 : ∀ x, Sh (dnSL (dnSD h 289 14 x) 289 13 0) := fun _ => hh
  simp only [fX13_widens, fX13_widens_j33, fX13_widens_j62, dnB_eval, q6, q7, g_289_12 hh, hv, g6]
  unfold cvNr cvRr isRlN
  by_cases c6 : kd = 6
  · by_cases cs : s < 6
    · subst c6
      simp [cs, dnB_eval, g_289_12 hh, hv, g6, g_289_13 hh, n64_ok (hok rfl cs), dnP, p_289_14 hh, p_289_13 (h1 _), p_289_12 (h2 _)]
      rfl
    · subst c6
      simp [cs, dnB_eval, g_289_12 hh, hv, g6, p_289_12 hh, dnP, hV]
  · by_cases c7 : kd = 7
    · by_cases cs : s < 6
      · subst c7
        simp [cs, dnB_eval, g_289_12 hh, hv, g6, g_289_13 hh, dnP, p_289_14 hh, p_289_13 (h1 _), p_289_12 (h2 _)]
        rfl
      · subst c7
        simp [cs, dnB_eval, g_289_12 hh, hv, g6, p_289_12 hh, dnP, hV]
    · simp [c6, c7, dnB_eval, p_289_12 hh, dnP, hV]
theorem puts_r {h : dnH} (hh : Sh h) {r i kd s : Nat} (hr : r < 32) (hi : i < 12) (hk : h.2.1 293 r = nI kd) (hkd : kd < 12) (hv : h.2.1 289 12 = nI s) (hs : s < 12) (hok : kd = 6 → s < 6 → ok64 (FP.f2d (FP.l2f (h.2.2.1 289 13)))) :
    fX13_puts (some 289) (nI r) (nI i) h = some (tk kd s, if tk kd s = true then wrR (setV h (nI (cvS kd s)) (cvNr kd s (h.2.2.1 289 13)) (cvRr kd s (h.2.2.1 289 13) (h.2.2.2.1 289 14))) (12 * r + i) (nI (cvS kd s)) (cvNr kd s (h.2.2.1 289 13)) (cvRr kd s (h.2.2.1 289 13) (h.2.2.2.1 289 14)) else h) := by
  have e1 := dnIn_nI (show r < 32 by omega) (by decide)
  have e2 : (nI r).toNatClampNeg = r := nI_clamp (by omega)
  simp only [fX13_puts, dnB_eval, g_289_6 hh, a_293 hh, e1, e2, if_true, hk, g_289_12 hh, hv, takesR hkd hs, dnP]
  cases htk : tk kd s
  · simp only [Bool.false_eq_true, if_false, dnP]
  · simp only [if_true, dnB_eval, g_289_6 hh, a_293 hh, e1, e2, hk, r_isPlain, plain_nI hkd, dnP]
    by_cases h8 : kd < 8
    · simp only [h8, decide_true, if_true, dnB_eval, g_289_6 hh, a_293 hh, e1, e2, hk, v_289 hh, widens_r hh hkd hs hv hok, fX13_puts_j40]
      rw [v_289 (show Sh (setV h _ _ _) from hh), lays_r (show Sh (setV h _ _ _) from hh) hr hi]
      simp only [cvS, h8, if_true, dnP]
      rfl
    · have n6 : ¬ kd = 6 := by omega
      have n7 : ¬ kd = 7 := by omega
      have hN : cvNr kd s (h.2.2.1 289 13) = h.2.2.1 289 13 := by unfold cvNr isRlN; simp [n6, n7]
      have hR : cvRr kd s (h.2.2.1 289 13) (h.2.2.2.1 289 14) = h.2.2.2.1 289 14 := by unfold cvRr; simp [n6, n7]
      have hV : setV h (nI s) (h.2.2.1 289 13) (h.2.2.2.1 289 14) = h := by
        unfold setV dnSD dnSL dnSI
        simp only [dnUp_id rfl, dnUp_id hv]
      simp only [h8, decide_false, Bool.false_eq_true, if_false, fX13_puts_j40, dnB_eval, v_289 hh, lays_r hh hr hi, dnP, cvS, hN, hR, hV, hv]
theorem toldOf_r {h : dnH} (hh : Sh h) {s : Nat} (hv : h.2.1 289 12 = nI s) (hs : s < 12) (hok : isRlN s = true → ok64 (FP.dmul 4620693217682128896 (h.2.2.2.1 289 14))) : fX13_toldOf (some 289) h = some (if isRlN s then FP.d2l (FP.dmul 4620693217682128896 (h.2.2.2.1 289 14)) else h.2.2.1 289 13, h) := by
  have q6 : (nI s = 6) ↔ s = 6 := nI_eq (b := 6) (by omega) (by decide)
  have q7 : (nI s = 7) ↔ s = 7 := nI_eq (b := 7) (by omega) (by decide)
  have k18 : isRlN s = true → fX13_toldOf_j18 (some 289) h = some (FP.d2l (FP.dmul 4620693217682128896 (h.2.2.2.1 289 14)), h) := fun hq => by
    simp only [fX13_toldOf_j18, dnB_eval, g_289_14 hh, n64_ok (hok hq), dnP]
  simp only [fX13_toldOf, dnB_eval, g_289_12 hh, hv, q6, q7]
  by_cases c6 : s = 6
  · have hq : isRlN s = true := by simp [isRlN, c6]
    rw [if_pos c6, hq, if_pos rfl]
    exact k18 hq
  · rw [if_neg c6]
    simp only [dnB_eval, g_289_12 hh, hv, q7]
    by_cases c7 : s = 7
    · have hq : isRlN s = true := by simp [isRlN, c7]
      rw [if_neg (Decidable.not_not.mpr c7), hq, if_pos rfl]
      exact k18 hq
    · have hq : isRlN s = false := by simp [isRlN, c6, c7]
      rw [if_pos c7, hq]
      simp only [dnB_eval, g_289_13 hh, dnP, Bool.false_eq_true, if_false]
