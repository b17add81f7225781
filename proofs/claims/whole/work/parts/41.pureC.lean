/-! PURE 12: what a place holds -/
/-- what the reference holds and what the class holds at a place -/
def hR (x c : Int32) : Prop := (x = -1 ∧ c = -14) ∨ (x = -2 ∧ c = -12) ∨ (x = -3 ∧ c = -13) ∨ ∃ r : Nat, r < 31 ∧ x = nI r ∧ c = nI r
theorem at_c6 (g p : Nat) : (nI g * 6) + nI p = nI (6 * g + p) := by rw [show (6 : Int32) = nI 6 from rfl, nI_mul, nI_add, Nat.mul_comm]
theorem at_r6 (g p : Nat) : (6 * nI g) + nI p = nI (6 * g + p) := by rw [show (6 : Int32) = nI 6 from rfl, nI_mul, nI_add]
theorem sa_3' {h : dnH} (hh : Sh h) {r : Nat} (hr : r < 31) : dnAR (some 4) 104 (nI r) h = some (some (5 + 4 * r), h) := by
  have := sa_3 (st1 hh) hr
  rw [show 1 + 4 + 4 * r = 5 + 4 * r by omega] at this
  exact this
theorem row1 {h : dnH} (hh : Sh h) {r : Nat} (hr : r < 31) : RowAt h (5 + 4 * r) := by
  have := ((st1 hh).2.2 r hr).2
  rw [show 1 + 4 + 4 * r = 5 + 4 * r by omega] at this
  exact this
/-- rowAt: none where there is no such place, or no row -/
theorem rowAt_out {h : dnH} (hh : Sh h) {g : Nat} (hg : g < 4) {p : Int32} (hp : pf (h.2.1 2 g) p ≠ 0) : fX9_rowAt (some 1) (nI g) p h = some (none, h) := by
  have hn : ¬ (0 ≤ p ∧ p < h.2.1 2 g) := fun hc => hp (by
    unfold pf
    have h0 : ¬ h.2.1 2 g < 0 := by
      have h1 := Int32.le_iff_toInt_le.mp hc.1
      have h2 := Int32.lt_iff_toInt_lt.mp hc.2
      intro h3
      have h4 := Int32.lt_iff_toInt_lt.mp h3
      omega
    rw [if_neg h0, if_pos hc])
  simp only [fX9_rowAt, dnB_eval, sv (st1 hh), hasPlace_c hh hg, hn, decide_false, Bool.false_eq_true, if_false, dnP]
theorem rowAt_no {h : dnH} (hh : Sh h) {g p m : Nat} (hg : g < 4) (hm : m ≤ 6) (hx : h.2.1 2 g = nI m) (hp : p < m) (hc : h.2.1 3 (6 * g + p) < 0) : fX9_rowAt (some 1) (nI g) (nI p) h = some (none, h) := by
  have hs := st1 hh
  have hy : (0 ≤ nI p ∧ nI p < h.2.1 2 g) := ⟨Int32.not_lt.mp (nI_pos (by omega)), by rw [hx]; exact (nI_ltI (by omega) (by omega)).mpr hp⟩
  have e1 := dnIn_nI (show 6 * g + p < 30 by omega) (by decide)
  have e2 : (nI (6 * g + p)).toNatClampNeg = 6 * g + p := nI_clamp (by omega)
  have hc' : ¬ 0 ≤ h.2.1 (1 + 2) (6 * g + p) := Int32.not_le.mpr hc
  simp only [fX9_rowAt, dnB_eval, sv hs, hasPlace_c hh hg, hy, and_self, decide_true, if_true, at_c6, sg_1 hs, sa_2 hs, e1, e2, hc', if_false, dnP]
theorem rowAt_yes {h : dnH} (hh : Sh h) {g p m r : Nat} (hg : g < 4) (hm : m ≤ 6) (hx : h.2.1 2 g = nI m) (hp : p < m) (hr : r < 31) (hc : h.2.1 3 (6 * g + p) = nI r) : fX9_rowAt (some 1) (nI g) (nI p) h = some (some (5 + 4 * r), h) := by
  have hs := st1 hh
  have hy : (0 ≤ nI p ∧ nI p < h.2.1 2 g) := ⟨Int32.not_lt.mp (nI_pos (by omega)), by rw [hx]; exact (nI_ltI (by omega) (by omega)).mpr hp⟩
  have e1 := dnIn_nI (show 6 * g + p < 30 by omega) (by decide)
  have e2 : (nI (6 * g + p)).toNatClampNeg = 6 * g + p := nI_clamp (by omega)
  have hc' : h.2.1 (1 + 2) (6 * g + p) = nI r := hc
  have h0 : (0 : Int32) ≤ nI r := Int32.not_lt.mp (nI_pos (by omega))
  have h3 : dnAR (some (1 + 3)) 104 (nI r) h = some (some (5 + 4 * r), h) := sa_3' hh hr
  simp only [fX9_rowAt, dnB_eval, sv hs, hasPlace_c hh hg, hy, and_self, decide_true, if_true, at_c6, sg_1 hs, sa_2 hs, e1, e2, hc', h0, sg_2 hs, h3, dnP]
theorem rowFault_out {h : dnH} (hh : Sh h) {g : Nat} (hg : g < 4) {p : Int32} (hp : pf (h.2.1 2 g) p ≠ 0) : fX9_rowFault (some 1) (nI g) p h = some (pf (h.2.1 2 g) p, h) := by
  have hn : ¬ 0 ≤ pf (h.2.1 2 g) p := by
    unfold pf at hp ⊢
    by_cases c : h.2.1 2 g < 0
    · rw [if_pos c]; decide
    · rw [if_neg c] at hp ⊢
      by_cases c2 : (0 ≤ p ∧ p < h.2.1 2 g)
      · rw [if_pos c2] at hp
        exact absurd rfl hp
      · rw [if_neg c2]; decide
  simp only [fX9_rowFault, dnB_eval, sv (st1 hh), placeFault_c hh hg, hn, if_false, dnP]
theorem rowFault_in {h : dnH} (hh : Sh h) {g p m : Nat} (hg : g < 4) (hm : m ≤ 6) (hx : h.2.1 2 g = nI m) (hp : p < m) : fX9_rowFault (some 1) (nI g) (nI p) h = some (if h.2.1 3 (6 * g + p) = -14 then -4 else -5, h) := by
  have hs := st1 hh
  have e1 := dnIn_nI (show 6 * g + p < 30 by omega) (by decide)
  have e2 : (nI (6 * g + p)).toNatClampNeg = 6 * g + p := nI_clamp (by omega)
  have h0 : pf (h.2.1 2 g) (nI p) = 0 := by rw [hx]; exact pf_nI hm hp
  simp only [fX9_rowFault, dnB_eval, sv hs, placeFault_c hh hg, h0, show (0 : Int32) ≤ 0 by decide, if_true, at_c6, sg_1 hs, sa_2 hs, e1, e2]
  by_cases c : h.2.1 3 (6 * g + p) = -14
  · have c' : h.2.1 (1 + 2) (6 * g + p) = -14 := c
    simp only [c', c, not_true_eq_false, if_true, if_false, dnP]
  · have c' : ¬ h.2.1 (1 + 2) (6 * g + p) = -14 := c
    simp only [c', c, not_false_eq_true, if_true, if_false, dnP]
theorem held_r {h : dnH} (hh : Sh h) {g p : Nat} (hg : g < 4) (hp : p < 6) : fX13_held (some 289) (nI g) (nI p) h = some (h.2.1 292 (6 * g + p), h) := by
  have e1 := dnIn_nI (show 6 * g + p < 24 by omega) (by decide)
  have e2 : (nI (6 * g + p)).toNatClampNeg = 6 * g + p := nI_clamp (by omega)
  simp only [fX13_held, dnB_eval, g_289_5 hh, at_r6, a_292 hh, e1, e2, if_true, dnP]
theorem holdsNow_r {h : dnH} (hh : Sh h) {g p : Nat} (hg : g < 4) (hp : p < 6) (v : Int32) : fX13_holdsNow (some 289) (nI g) (nI p) v h = some ((), dnSI h 292 (6 * g + p) v) := by
  have e1 := dnIn_nI (show 6 * g + p < 24 by omega) (by decide)
  have e2 : (nI (6 * g + p)).toNatClampNeg = 6 * g + p := nI_clamp (by omega)
  simp only [fX13_holdsNow, dnB_eval, g_289_5 hh, at_r6, t_292 hh, e1, e2, if_true, dnP]
def rfR (x : Int32) : Int32 := if x = -1 then -4 else if x < 0 then -5 else 0
theorem rowFault_rOut {h : dnH} (hh : Sh h) {g : Nat} (hg : g < 4) (hx : plOk (h.2.1 291 g)) {p : Int32} (hp : pf (h.2.1 291 g) p ≠ 0) : fX13_rowFault (some 289) (nI g) p h = some (pf (h.2.1 291 g) p, h) := by
  simp only [fX13_rowFault, dnB_eval, v_289 hh, placeFault_r hh hg hx, hp, if_false, dnP]
theorem rowFault_rIn {h : dnH} (hh : Sh h) {g p m : Nat} (hg : g < 4) (hm : m ≤ 6) (hx : h.2.1 291 g = nI m) (hp : p < m) : fX13_rowFault (some 289) (nI g) (nI p) h = some (rfR (h.2.1 292 (6 * g + p)), h) := by
  have h0 : pf (h.2.1 291 g) (nI p) = 0 := by rw [hx]; exact pf_nI hm hp
  simp only [fX13_rowFault, dnB_eval, v_289 hh, placeFault_r hh hg (.inr ⟨m, hm, hx⟩), h0, if_true, held_r hh hg (show p < 6 by omega)]
  unfold rfR
  by_cases c : h.2.1 292 (6 * g + p) = -1
  · simp only [c, not_true_eq_false, if_true, if_false, dnP]
  · simp only [c, not_false_eq_true, if_true, if_false]
    by_cases c2 : h.2.1 292 (6 * g + p) < 0
    · simp only [c2, Int32.not_le.mpr c2, if_true, if_false, dnP]
    · simp only [c2, Int32.not_lt.mp c2, if_true, if_false, dnP]
