/-! ABS 37: sizes of doubles; dot -/
def MG (K : Nat) (a : UInt64) : Prop := a.toNat % 2 ^ 63 < K * 2 ^ 52
theorem MG.ok {K : Nat} {a : UInt64} (h : MG K a) (hK : K ≤ 2047) : ok64 a := by
  rw [ok64_iff]
  obtain ⟨s, c, q, e⟩ := FP.Core.fin_of_lt h hK
  rw [e]
  exact FP.Core.Datum.noConfusion
theorem MG.mono {K K2 : Nat} {a : UInt64} (h : MG K a) (hK : K ≤ K2) : MG K2 a := Nat.lt_of_lt_of_le h (Nat.mul_le_mul_right _ hK)
theorem MG.add {K : Nat} {a b : UInt64} (ha : MG K a) (hb : MG K b) (hK : K ≤ 2047) : MG (K + 2) (FP.dadd a b) := FP.Core.dadd_mag ha hb hK
theorem MG.mul {a b : UInt64} (ha : MG 1108 a) (hb : MG 1108 b) : MG 1194 (FP.dmul a b) := by
  have := FP.Core.dmul_mag (Ka := 1108) (Kb := 1108) ha hb (by decide) (by decide)
  rw [show 1108 + 1108 - 1025 + 3 = 1194 from rfl] at this
  exact this
theorem MG.mul8 {K : Nat} {a : UInt64} (h : MG K a) (hK : K ≤ 2047) : ok64 (FP.dmul 4620693217682128896 a) := by
  rw [ok64_iff, ← FP.Core.notNaN_iff]
  exact FP.Core.dmul_out ((FP.Core.fin_bits _).mpr (by decide)) (FP.Core.fin_of_lt h hK)
theorem DB.mg {n : Nat} {a : UInt64} (h : DB n a) (hn : n < 2 ^ 24) : MG 1108 a := by
  have h2 := h.2
  rw [FP.Core.zmag_bits (by obtain ⟨⟨s, c, q, e⟩, -⟩ := h; rw [e]; exact FP.Core.Datum.noConfusion)] at h2
  have hs := FP.Core.unitsOf_start (f := FP.Core.b64) (K := 1108) (by decide)
  have : FP.Core.unitsOf FP.Core.b64 (a.toNat % 2 ^ 63) < FP.Core.unitsOf FP.Core.b64 (1108 * FP.Core.b64.tails) := by
    rw [hs, FP.Core.tails_b64]
    refine Nat.lt_of_le_of_lt h2 ?_
    have : n * 2 ^ 1135 < 2 ^ 24 * 2 ^ 1135 := Nat.mul_lt_mul_of_pos_right hn (Nat.two_pow_pos _)
    rw [← Nat.pow_add] at this
    rw [← Nat.pow_add]
    exact this
  have := FP.Core.unitsOf_lt_iff.mp this
  rw [FP.Core.tails_b64] at this
  exact this
theorem mg_0 : MG 1108 FP.dconst0 := by unfold MG; decide
theorem val_mg {B a : Nat} {c : Cel} (hB : B < 2 ^ 24) (h : valOk B c.1 c.2.1 c.2.2) : MG 1108 c.2.2 := by
  cases q : isRlN c.1
  · rw [h.2.2.1 q]
    exact mg_0
  · have k67 : c.1 = 6 ∨ c.1 = 7 := by simpa [isRlN] using q
    rcases k67 with k | k
    · exact (h.2.2.2.2.2.1 k).db.mg hB
    · exact (h.2.2.2.2.2.2 k).mg hB
def isAs (p : Int32) : Bool := decide (p = 4 ∨ p = 5 ∨ p = 7)
theorem c_sum (p : Int32) : fX10_isSummed p = dnP (isAs p) := by
  unfold fX10_isSummed fX10_isSummed_j16 isAs
  by_cases h4 : p = 4
  · simp [h4]
  · by_cases h5 : p = 5
    · simp [h5]
    · by_cases h7 : p = 7 <;> simp [h4, h5, h7]
theorem r_as (p : Int32) : fX13_isAs p = dnP (isAs p) := by
  unfold fX13_isAs fX13_isAs_j16 isAs
  by_cases h4 : p = 4
  · simp [h4]
  · by_cases h5 : p = 5
    · simp [h5]
    · by_cases h7 : p = 7 <;> simp [h4, h5, h7]
theorem as_of {p : Int32} (h : isAs p = true) : ∃ a, p = nI a ∧ (a = 4 ∨ a = 5 ∨ a = 7) := by
  rcases of_decide_eq_true h with e | e | e
  · exact ⟨4, e, .inl rfl⟩
  · exact ⟨5, e, .inr (.inl rfl)⟩
  · exact ⟨7, e, .inr (.inr rfl)⟩
def dtS (a : Nat) (x y : Nat → Int64) : Nat → Int64
  | 0 => 0
  | j + 1 => nrw a (dtS a x y j + x j * y j)
def dtT (x y : Nat → UInt64) : Nat → UInt64
  | 0 => FP.dconst0
  | j + 1 => FP.dadd (dtT x y j) (FP.dmul (x j) (y j))
theorem dtT_mg {x y : Nat → UInt64} : ∀ n, (∀ j, j < n → MG 1108 (x j) ∧ MG 1108 (y j)) → n ≤ 12 → MG (1194 + 2 * n) (dtT x y n) := by
  intro n
  induction n with
  | zero => intro _ _; exact mg_0.mono (by decide)
  | succ n ih =>
    intro h hn
    have k := ih (fun j hj => h j (by omega)) (by omega)
    have m : MG (1194 + 2 * n) (FP.dmul (x n) (y n)) := (MG.mul (h n (by omega)).1 (h n (by omega)).2).mono (by omega)
    rw [show 1194 + 2 * (n + 1) = 1194 + 2 * n + 2 by omega]
    exact MG.add (K := 1194 + 2 * n) k m (by omega)
theorem cvt_num {a : Nat} {c : Cel} (h : isRlN a = false) : (cvt a c).2.1 = c.2.1 := by
  show cvNN a c.2.1 = _
  unfold cvNN
  rw [h]
  rfl
theorem cvt_7 {c : Cel} : (cvt 7 c).2.2 = cvD c.1 c.2.1 c.2.2 := rfl
theorem doubleAt_A {h : dnH} {a i : Nat} {R : Rw} (ha : RowAt h a) (hR : RwH h a R) (hi : i < 12) (hs : (R.2.2 i).1 < 12) : fX5_doubleAt (some a) (nI i) h = some ((cvt 7 (R.2.2 i)).2.2, h) := by
  obtain ⟨r1, r2, r3⟩ := hR.2.2 i hi
  have := doubleAt_c ha hi r1 hs
  rw [r2, r3] at this
  exact this

def KP (h h2 : dnH) : Prop := h2.2.1 289 19 = h.2.1 289 19 ∧ h2.2.2.1 289 20 = h.2.2.1 289 20 ∧ h2.2.2.2.1 289 21 = h.2.2.2.1 289 21
theorem KP.tr {h h2 h3 : dnH} (a : KP h h2) (b : KP h2 h3) : KP h h3 := ⟨b.1.trans a.1, b.2.1.trans a.2.1, b.2.2.trans a.2.2⟩
theorem kp_setV {h : dnH} {s : Int32} {n : Int64} {d : UInt64} : KP h (setV h s n d) := by
  refine ⟨?_, ?_, ?_⟩ <;> simp [setV, dnSI, dnSL, dnSD, dnUp]
theorem lw_A {B : Nat} {h0 h : dnH} {X : List Nat} {A : Ab} {r i a : Nat} (c : RS h0 X h A) (hr : r < 31) (hl : live X A r) (hi : i < 12) (ha : a < 8) (w : celOk B (A.2.2.1 r).1 ((A.2.2.1 r).2.2 i)) (ht : tk a ((A.2.2.1 r).2.2 i).1 = true) : ∃ h2 h3, fX13_loads (some 289) (nI r) (nI i) h = some ((), h2) ∧ RS h0 X h2 A ∧ fX13_widens (some 289) (nI a) h2 = some ((), h3) ∧ RS h0 X h3 A ∧ hv h3 (cvt a ((A.2.2.1 r).2.2 i)) ∧ KP h h3 := by
  obtain ⟨a1, a2, a3⟩ := (c.row hr hl).2.2 i hi
  have l := loads_r c.1 (show r < 32 by omega) hi
  have rl : RS h0 X (setV h (h.2.1 296 (12 * r + i)) (h.2.2.1 297 (12 * r + i)) (h.2.2.2.1 298 (12 * r + i))) A := c.setV
  have hl2 : hv (setV h (h.2.1 296 (12 * r + i)) (h.2.2.1 297 (12 * r + i)) (h.2.2.2.1 298 (12 * r + i))) ((A.2.2.1 r).2.2 i) := by
    rw [a1, a2, a3]
    exact hv_set
  have k1 : KP h (setV h (h.2.1 296 (12 * r + i)) (h.2.2.1 297 (12 * r + i)) (h.2.2.2.1 298 (12 * r + i))) := kp_setV
  generalize setV h (h.2.1 296 (12 * r + i)) (h.2.2.1 297 (12 * r + i)) (h.2.2.2.1 298 (12 * r + i)) = h2 at l rl hl2 k1
  obtain ⟨x1, x2, x3⟩ := hl2
  obtain ⟨y1, y2⟩ := cvt_r (show a < 12 by omega) w.1 ht w.2.2.2
  have q := widens_r rl.1 (show a < 12 by omega) w.1 x1 (fun _ _ => ok_l2f _)
  refine ⟨h2, _, l, rl, q, rl.setV, ?_, k1.tr kp_setV⟩
  rw [x2, x3, ← y1, ← y2]
  have e : (cvt a ((A.2.2.1 r).2.2 i)).1 = a := if_pos ha
  rw [show nI a = nI (cvt a ((A.2.2.1 r).2.2 i)).1 by rw [e]]
  exact hv_set
theorem step_dot {B : Nat} (hB : 16 ≤ B) (hB2 : B < 2 ^ 24) (g p g2 p2 s : Int32) : Step B B (fX10_sumProducts (some 269) g p g2 p2 s) (fX13_dotAnswer (some 289) g p g2 p2 s) := by
  intro A w
  cases hg : inB g 0 3
  · exact step_ro (-1) w (fun h0 h c => by simp only [fX10_sumProducts, hg, dnB_eval, c_isGrid, c_isKind, c_isSort, c_isPlain, r_isGrid, r_isKind, r_isSort, r_isPlain, r_in, dnP, Bool.false_eq_true, if_false, if_true]) (fun q0 q r => by simp only [fX13_dotAnswer, hg, dnB_eval, c_isGrid, c_isKind, c_isSort, c_isPlain, r_isGrid, r_isKind, r_isSort, r_isPlain, r_in, dnP, Bool.false_eq_true, if_false, if_true])
  cases hg2 : inB g2 0 3
  · exact step_ro (-1) w (fun h0 h c => by simp only [fX10_sumProducts, hg, hg2, dnB_eval, c_isGrid, c_isKind, c_isSort, c_isPlain, r_isGrid, r_isKind, r_isSort, r_isPlain, r_in, dnP, Bool.false_eq_true, if_false, if_true]) (fun q0 q r => by simp only [fX13_dotAnswer, hg, hg2, dnB_eval, c_isGrid, c_isKind, c_isSort, c_isPlain, r_isGrid, r_isKind, r_isSort, r_isPlain, r_in, dnP, Bool.false_eq_true, if_false, if_true])
  cases hs : isAs s
  · exact step_ro (-1) w (fun h0 h c => by simp only [fX10_sumProducts, hg, hg2, c_sum, hs, dnB_eval, c_isGrid, c_isKind, c_isSort, c_isPlain, r_isGrid, r_isKind, r_isSort, r_isPlain, r_in, dnP, Bool.false_eq_true, if_false, if_true]) (fun q0 q r => by simp only [fX13_dotAnswer, hg, hg2, r_as, hs, dnB_eval, c_isGrid, c_isKind, c_isSort, c_isPlain, r_isGrid, r_isKind, r_isSort, r_isPlain, r_in, dnP, Bool.false_eq_true, if_false, if_true])
  rcases lookR w g p with ⟨f, f0, -, f2, f3⟩ | ⟨G, P, m, r, hG, hP, hm, hr, rfl, rfl, e1, e2, -, hl, -, hrw, l1, l2⟩
  · obtain ⟨n1, n2⟩ := neg_fault f0
    exact step_ro f w (fun h0 h c => by simp only [fX10_sumProducts, hg, hg2, c_sum, hs, g_269_0 c.1, sv (st1 c.1), (f2 h0 _ _ h c).1, (f2 h0 _ _ h c).2, Option.elim, dnB_eval, c_isGrid, c_isKind, c_isSort, c_isPlain, r_isGrid, r_isKind, r_isSort, r_isPlain, r_in, dnP, Bool.false_eq_true, if_false, if_true]) (fun q0 q r => by simp only [fX13_dotAnswer, fX13_twoRows, hg, hg2, r_as, hs, v_289 r.1, f3 hg q0 _ q r, n1, dnB_eval, c_isGrid, c_isKind, c_isSort, c_isPlain, r_isGrid, r_isKind, r_isSort, r_isPlain, r_in, dnP, Bool.false_eq_true, if_false, if_true])
  rcases lookR w g2 p2 with ⟨f, f0, -, f2, f3⟩ | ⟨G2, P2, m2, t, hG2, hP2, hm2, ht, rfl, rfl, e12, e22, -, hlt, -, htw, k1, k2⟩
  · obtain ⟨n1, n2⟩ := neg_fault f0
    exact step_ro f w (fun h0 h c => by simp only [fX10_sumProducts, hg, hg2, c_sum, hs, g_269_0 c.1, sv (st1 c.1), l1 h0 _ _ h c, (f2 h0 _ _ h c).1, (f2 h0 _ _ h c).2, Option.elim, dnB_eval, c_isGrid, c_isKind, c_isSort, c_isPlain, r_isGrid, r_isKind, r_isSort, r_isPlain, r_in, dnP, Bool.false_eq_true, if_false, if_true]) (fun q0 q r => by simp only [fX13_dotAnswer, fX13_twoRows, hg, hg2, r_as, hs, v_289 r.1, (l2 q0 _ q r).1, f3 hg2 q0 _ q r, n1, dnB_eval, c_isGrid, c_isKind, c_isSort, c_isPlain, r_isGrid, r_isKind, r_isSort, r_isPlain, r_in, dnP, Bool.false_eq_true, if_false, if_true])
  obtain ⟨a, rfl, ha⟩ := as_of hs
  have N1 := hrw.2.1
  have N2 := htw.2.1
  have a8 : a < 8 := by omega
  have mn : ∀ k, fJ9_min_7cf53 (nI (A.2.2.1 r).2.1) (nI (A.2.2.1 t).2.1) k = some (nI (min (A.2.2.1 r).2.1 (A.2.2.1 t).2.1), k) := fun k => by
    simp only [fJ9_min_7cf53, nI_ltI (show (A.2.2.1 t).2.1 < 2 ^ 31 by omega) (show (A.2.2.1 r).2.1 < 2 ^ 31 by omega)]
    by_cases q : (A.2.2.1 t).2.1 < (A.2.2.1 r).2.1
    · rw [if_pos q, Nat.min_eq_right (by omega)]
      rfl
    · rw [if_neg q, Nat.min_eq_left (by omega)]
      rfl
  have hn1 : min (A.2.2.1 r).2.1 (A.2.2.1 t).2.1 ≤ (A.2.2.1 r).2.1 := Nat.min_le_left _ _
  have hn2 : min (A.2.2.1 r).2.1 (A.2.2.1 t).2.1 ≤ (A.2.2.1 t).2.1 := Nat.min_le_right _ _
  have bth : ∀ q0 k, RS q0 [] k A → fX13_both (some 289) (nI r) (nI t) k = some (nI (min (A.2.2.1 r).2.1 (A.2.2.1 t).2.1), k) := fun q0 k r' => both_A r' hr hl ht hlt N1 N2
  generalize min (A.2.2.1 r).2.1 (A.2.2.1 t).2.1 = n at mn hn1 hn2 bth
  have le0 : (nI n ≤ 0) ↔ n = 0 := by rw [show (0 : Int32) = nI 0 from rfl, nI_leI (by omega) (by decide)]; omega
  by_cases hrd : n = 0 ∨ ((decide ((A.2.2.1 r).1 < 8) && tk a (A.2.2.1 r).1) = true ∧ (decide ((A.2.2.1 t).1 < 8) && tk a (A.2.2.1 t).1) = true)
  case neg =>
    have n0 : ¬ n = 0 := fun e => hrd (.inl e)
    have rd1 := c_readsAs hrw.1 (show a < 12 by omega)
    have rd2 := c_readsAs htw.1 (show a < 12 by omega)
    rw [decide_eq_true a8, Bool.and_true] at rd1 rd2
    cases y1 : (decide ((A.2.2.1 r).1 < 8) && tk a (A.2.2.1 r).1)
    · rw [y1] at rd1
      exact step_ro (-7) w (fun h0 h c => by simp only [fX10_sumProducts, hg, hg2, c_sum, hs, g_269_0 c.1, sv (st1 c.1), l1 h0 _ _ h c, k1 h0 _ _ h c, Option.elim, rg_i (row1 c.1 hr), (c.row hr hl).2.1, (c.row hr hl).1, rg_i (row1 c.1 ht), (c.row ht hlt).2.1, mn, le0, n0, rd1, dnB_eval, c_isGrid, c_isKind, c_isSort, c_isPlain, r_isGrid, r_isKind, r_isSort, r_isPlain, r_in, dnP, Bool.false_eq_true, if_false, if_true]) (fun q0 q r' => by simp only [fX13_dotAnswer, fX13_twoRows, hg, hg2, r_as, hs, v_289 r'.1, (l2 q0 _ q r').1, (l2 q0 _ q r').2, (k2 q0 _ q r').1, (k2 q0 _ q r').2, bth q0 q r', le0, n0, isReadable_A r' hr hl hrw.1 (show a < 12 by omega), y1, dnB_eval, c_isGrid, c_isKind, c_isSort, c_isPlain, r_isGrid, r_isKind, r_isSort, r_isPlain, r_in, dnP, Bool.false_eq_true, if_false, if_true])
    · cases y2 : (decide ((A.2.2.1 t).1 < 8) && tk a (A.2.2.1 t).1)
      · rw [y1] at rd1
        rw [y2] at rd2
        exact step_ro (-7) w (fun h0 h c => by simp only [fX10_sumProducts, hg, hg2, c_sum, hs, g_269_0 c.1, sv (st1 c.1), l1 h0 _ _ h c, k1 h0 _ _ h c, Option.elim, rg_i (row1 c.1 hr), (c.row hr hl).2.1, (c.row hr hl).1, rg_i (row1 c.1 ht), (c.row ht hlt).2.1, (c.row ht hlt).1, mn, le0, n0, rd1, rd2, dnB_eval, c_isGrid, c_isKind, c_isSort, c_isPlain, r_isGrid, r_isKind, r_isSort, r_isPlain, r_in, dnP, Bool.false_eq_true, if_false, if_true]) (fun q0 q r' => by simp only [fX13_dotAnswer, fX13_twoRows, hg, hg2, r_as, hs, v_289 r'.1, (l2 q0 _ q r').1, (l2 q0 _ q r').2, (k2 q0 _ q r').1, (k2 q0 _ q r').2, bth q0 q r', le0, n0, isReadable_A r' hr hl hrw.1 (show a < 12 by omega), isReadable_A r' ht hlt htw.1 (show a < 12 by omega), y1, y2, dnB_eval, c_isGrid, c_isKind, c_isSort, c_isPlain, r_isGrid, r_isKind, r_isSort, r_isPlain, r_in, dnP, Bool.false_eq_true, if_false, if_true])
      · exact absurd (.inr ⟨y1, y2⟩) hrd
  have dc : ∀ h0 h, CS h0 sp0 [] h A → ∀ x, fX10_sumProducts_j127 (some 269) (nI a) (some (5 + 4 * r)) (some (5 + 4 * t)) (nI n) h = x → fX10_sumProducts (some 269) (nI G) (nI P) (nI G2) (nI P2) (nI a) h = x := fun h0 h c x hx => by
    rw [← hx]
    by_cases n0 : n = 0
    · have z := le0.mpr n0
      simp only [fX10_sumProducts, hg, hg2, c_sum, hs, g_269_0 c.1, sv (st1 c.1), l1 h0 _ _ h c, k1 h0 _ _ h c, Option.elim, rg_i (row1 c.1 hr), (c.row hr hl).2.1, (c.row hr hl).1, rg_i (row1 c.1 ht), (c.row ht hlt).2.1, (c.row ht hlt).1, mn, z, dnB_eval, c_isGrid, c_isKind, c_isSort, c_isPlain, r_isGrid, r_isKind, r_isSort, r_isPlain, r_in, dnP, Bool.false_eq_true, if_false, if_true]
    · obtain ⟨y1, y2⟩ := hrd.resolve_left n0
      have rd1 := c_readsAs hrw.1 (show a < 12 by omega)
      have rd2 := c_readsAs htw.1 (show a < 12 by omega)
      rw [decide_eq_true a8, Bool.and_true, y1] at rd1
      rw [decide_eq_true a8, Bool.and_true, y2] at rd2
      simp only [fX10_sumProducts, hg, hg2, c_sum, hs, g_269_0 c.1, sv (st1 c.1), l1 h0 _ _ h c, k1 h0 _ _ h c, Option.elim, rg_i (row1 c.1 hr), (c.row hr hl).2.1, (c.row hr hl).1, rg_i (row1 c.1 ht), (c.row ht hlt).2.1, (c.row ht hlt).1, mn, le0, n0, rd1, rd2, dnB_eval, c_isGrid, c_isKind, c_isSort, c_isPlain, r_isGrid, r_isKind, r_isSort, r_isPlain, r_in, dnP, Bool.false_eq_true, if_false, if_true]
  have dr : ∀ q0 k, RS q0 [] k A → ∀ x, fX13_dotAnswer_j100 (some 289) (nI a) (nI r) (nI t) (nI n) k = x → fX13_dotAnswer (some 289) (nI G) (nI P) (nI G2) (nI P2) (nI a) k = x := fun q0 k r' x hx => by
    rw [← hx]
    by_cases n0 : n = 0
    · have z := le0.mpr n0
      simp only [fX13_dotAnswer, fX13_twoRows, hg, hg2, r_as, hs, v_289 r'.1, (l2 q0 _ k r').1, (l2 q0 _ k r').2, (k2 q0 _ k r').1, (k2 q0 _ k r').2, bth q0 k r', z, dnB_eval, c_isGrid, c_isKind, c_isSort, c_isPlain, r_isGrid, r_isKind, r_isSort, r_isPlain, r_in, dnP, Bool.false_eq_true, if_false, if_true]
    · obtain ⟨y1, y2⟩ := hrd.resolve_left n0
      simp only [fX13_dotAnswer, fX13_twoRows, hg, hg2, r_as, hs, v_289 r'.1, (l2 q0 _ k r').1, (l2 q0 _ k r').2, (k2 q0 _ k r').1, (k2 q0 _ k r').2, bth q0 k r', le0, n0, isReadable_A r' hr hl hrw.1 (show a < 12 by omega), isReadable_A r' ht hlt htw.1 (show a < 12 by omega), y1, y2, dnB_eval, c_isGrid, c_isKind, c_isSort, c_isPlain, r_isGrid, r_isKind, r_isSort, r_isPlain, r_in, dnP, Bool.false_eq_true, if_false, if_true]
  have tkr : ∀ i, i < n → tk a ((A.2.2.1 r).2.2 i).1 = true := fun i hi => by
    obtain ⟨y1, y2⟩ := hrd.resolve_left (by omega)
    obtain ⟨z1, z2⟩ := Bool.and_eq_true_iff.mp y1
    rw [(hrw.2.2 i (by omega)).2.2.1 (of_decide_eq_true z1)]
    exact z2
  have tkt : ∀ i, i < n → tk a ((A.2.2.1 t).2.2 i).1 = true := fun i hi => by
    obtain ⟨y1, y2⟩ := hrd.resolve_left (by omega)
    obtain ⟨z1, z2⟩ := Bool.and_eq_true_iff.mp y2
    rw [(htw.2.2 i (by omega)).2.2.1 (of_decide_eq_true z1)]
    exact z2
  let x : Nat → Cel := fun i => cvt a ((A.2.2.1 r).2.2 i)
  let y : Nat → Cel := fun i => cvt a ((A.2.2.1 t).2.2 i)
  have okx : ∀ i, i < n → valOk B (x i).1 (x i).2.1 (x i).2.2 := fun i hi => (celOk_cvt hB (show a < 12 by omega) (hrw.2.2 i (by omega)).1 (tkr i hi) (hrw.2.2 i (by omega)).2.2.2).2.2.2
  have oky : ∀ i, i < n → valOk B (y i).1 (y i).2.1 (y i).2.2 := fun i hi => (celOk_cvt hB (show a < 12 by omega) (htw.2.2 i (by omega)).1 (tkt i hi) (htw.2.2 i (by omega)).2.2.2).2.2.2
  let S : Nat → Int64 := dtS a (fun i => (x i).2.1) (fun i => (y i).2.1)
  let T : Nat → UInt64 := dtT (fun i => (x i).2.2) (fun i => (y i).2.2)
  have Tm : ∀ i, i ≤ n → MG (1194 + 2 * i) (T i) := fun i hi => dtT_mg i (fun j hj => ⟨val_mg (a := a) hB2 (okx j (by omega)), val_mg (a := a) hB2 (oky j (by omega))⟩) (by omega)
  have pm : ∀ i, i < n → ok64 (FP.dmul (x i).2.2 (y i).2.2) := fun i hi => (MG.mul (val_mg (a := a) hB2 (okx i hi)) (val_mg (a := a) hB2 (oky i hi))).ok (by decide)
  have sm : ∀ i, i < n → ok64 (FP.dadd (T i) (FP.dmul (x i).2.2 (y i).2.2)) := fun i hi => (show MG (1194 + 2 * (i + 1)) _ from Tm (i + 1) (by omega)).ok (by omega)
  have c8 : ok64 (FP.dmul 4620693217682128896 (T n)) := (Tm n (Nat.le_refl _)).mul8 (by omega)
  let v : Int64 := if a = 7 then FP.d2l (FP.dmul 4620693217682128896 (T n)) else S n
  have a7 : (nI a = 7) ↔ a = 7 := nI_eq (b := 7) (by omega) (by decide)
  have a4 : (nI a = 4) ↔ a = 4 := nI_eq (b := 4) (by omega) (by decide)
  refine ⟨nI n, setN A (v, A.2.2.2.2), w.note, fun h0 h c => ?_, fun q0 k r' => ?_⟩
  · have ch : ∀ {k k2 : dnH}, CS h0 sp0 [] k A → Eqc (fun z => z ≠ 269) k k2 → CS h0 sp0 [] k2 A := fun ck e => ck.fr (e.im (fun z hz => by omega))
    have b0 : fX10_begin (some 269) h = some ((), dnSI (dnSI (dnSD (dnSL h 269 2 0) 269 3 FP.dconst0) 269 4 0) 269 5 0) := by
      have s1 : Sh (dnSL h 269 2 0) := c.1
      have s2 : Sh (dnSD (dnSL h 269 2 0) 269 3 FP.dconst0) := c.1
      have s3 : Sh (dnSI (dnSD (dnSL h 269 2 0) 269 3 FP.dconst0) 269 4 0) := c.1
      simp only [fX10_begin, dnB_eval, p_269_2 c.1, p_269_3 s1, p_269_4 s2, p_269_5 s3, dnP]
    have c1 : CS h0 sp0 [] (dnSI (dnSI (dnSD (dnSL h 269 2 0) 269 3 FP.dconst0) 269 4 0) 269 5 0) A := ch (ch (ch (ch c (eqc_SL (fun hc => hc rfl))) (eqc_SD (fun hc => hc rfl))) (eqc_SI (fun hc => hc rfl))) (eqc_SI (fun hc => hc rfl))
    have i2 : (dnSI (dnSI (dnSD (dnSL h 269 2 0) 269 3 FP.dconst0) 269 4 0) 269 5 0).2.2.1 269 2 = 0 := by simp [dnSI, dnSL, dnSD, dnUp]
    have i3 : (dnSI (dnSI (dnSD (dnSL h 269 2 0) 269 3 FP.dconst0) 269 4 0) 269 5 0).2.2.2.1 269 3 = FP.dconst0 := by simp [dnSI, dnSL, dnSD, dnUp]
    generalize dnSI (dnSI (dnSD (dnSL h 269 2 0) 269 3 FP.dconst0) 269 4 0) 269 5 0 = h1 at b0 c1 i2 i3
    have KK := it_inv (f := fX10_sumProducts_b134 (some 269) (nI a) (some (5 + 4 * r)) (some (5 + 4 * t)) (nI n)) (Q := fun _ k => CS h0 sp0 [] k A ∧ (a ≠ 7 → k.2.2.1 269 2 = S n) ∧ (a = 7 → k.2.2.2.1 269 3 = T n)) (fun j s k => s = nI j ∧ CS h0 sp0 [] k A ∧ (a ≠ 7 → k.2.2.1 269 2 = S j) ∧ (a = 7 → k.2.2.2.1 269 3 = T j)) n 1000 0 (by omega) (by omega) ?_ ?_ (nI 0) h1 ⟨rfl, c1, fun _ => i2, fun _ => i3⟩
    · obtain ⟨_, h2, b1, c2, j2, j3⟩ := KK
      rw [nI_0] at b1
      have c3 := c2.told v
      refine ⟨_, dc h0 h c _ ?_, c3⟩
      by_cases q : a = 7
      · have ev : v = FP.d2l (FP.dmul 4620693217682128896 (T n)) := if_pos q
        have z7 := not_not_intro (a7.mpr q)
        rw [ev]
        simp only [fX10_sumProducts_j127, fX10_sumProducts_j237, dnB_eval, v_269 c.1, b0, b1, g_269_1 c2.1, z7, if_false, g_269_3 c2.1, j3 q, fX12_codeOfReal, n64_ok c8, p_258_0 c2.1, dnP]
      · have ev : v = S n := if_neg q
        have z7 := mt a7.mp q
        rw [ev]
        simp only [fX10_sumProducts_j127, fX10_sumProducts_j237, dnB_eval, v_269 c.1, b0, b1, g_269_1 c2.1, z7, not_false_eq_true, if_true, g_269_2 c2.1, j2 q, p_258_0 c2.1, dnP]
    · rintro j s k hj ⟨rfl, ck, j2, j3⟩
      left
      have hc : ¬ (nI n ≤ nI j) := fun hc => by have := (nI_leI (a := n) (b := j) (by omega) (by omega)).mp hc; omega
      have rr := ck.row hr hl
      have rt := ck.row ht hlt
      by_cases q : a = 7
      · have z7 := not_not_intro (a7.mpr q)
        have d1 := doubleAt_A (i := j) (row1 ck.1 hr) rr (by omega) (hrw.2.2 j (by omega)).1
        have d2 := doubleAt_A (i := j) (row1 ck.1 ht) rt (by omega) (htw.2.2 j (by omega)).1
        have ex : (x j).2.2 = (cvt 7 ((A.2.2.1 r).2.2 j)).2.2 := by show (cvt a _).2.2 = _; rw [q]
        have ey : (y j).2.2 = (cvt 7 ((A.2.2.1 t).2.2 j)).2.2 := by show (cvt a _).2.2 = _; rw [q]
        rw [← ex] at d1
        rw [← ey] at d2
        refine ⟨nI (j + 1), dnSD k 269 3 (T (j + 1)), ?_, rfl, ch ck (eqc_SD (fun hc => hc rfl)), fun hq => absurd q hq, fun _ => (by simp [dnSI, dnSL, dnSD, dnUp])⟩
        show _ = some (Sum.inl (nI (j + 1)), dnSD k 269 3 (FP.dadd (T j) (FP.dmul (x j).2.2 (y j).2.2)))
        simp only [fX10_sumProducts_b134, fX10_sumProducts_j206, dnB_eval, hc, if_false, z7, g_269_3 ck.1, j3 q, rv (row1 ck.1 hr), rv (row1 ck.1 ht), d1, d2, n64_ok (pm j hj), n64_ok (sm j hj), p_269_3 ck.1, dnP, nI_1]
      · have z7 := mt a7.mp q
        have na : isRlN a = false := by rcases ha with e | e | e <;> rw [e] at q ⊢ <;> first | rfl | exact absurd rfl q
        have ex : (x j).2.1 = ((A.2.2.1 r).2.2 j).2.1 := cvt_num na
        have ey : (y j).2.1 = ((A.2.2.1 t).2.2 j).2.1 := cvt_num na
        have n1 := (rr.2.2 j (by omega)).2.1
        have n2 := (rt.2.2 j (by omega)).2.1
        rw [← ex] at n1
        rw [← ey] at n2
        refine ⟨nI (j + 1), dnSL k 269 2 (S (j + 1)), ?_, rfl, ch ck (eqc_SL (fun hc => hc rfl)), fun _ => (by simp [dnSI, dnSL, dnSD, dnUp]), fun hq => absurd hq q⟩
        show _ = some (Sum.inl (nI (j + 1)), dnSL k 269 2 (nrw a (S j + (x j).2.1 * (y j).2.1)))
        simp only [fX10_sumProducts_b134, fX10_sumProducts_j206, dnB_eval, hc, if_false, z7, not_false_eq_true, if_true, g_269_2 ck.1, j2 q, rg_4 (row1 ck.1 hr), ra_2 (row1 ck.1 hr), rg_4 (row1 ck.1 ht), ra_2 (row1 ck.1 ht), dnIn_nI (show j < 12 by omega) (by decide), nI_clamp (show j < 2 ^ 31 by omega), n1, n2, narrowed_c (show a < 12 by omega), p_269_2 ck.1, dnP, nI_1]
    · rintro s k ⟨rfl, ck, j2, j3⟩
      exact ⟨(), k, by simp only [fX10_sumProducts_b134, Int32.le_refl, if_true, dnP], ck, j2, j3⟩
  · have h1 : RS q0 [] (dnSD (dnSL k 289 20 0) 289 21 FP.dconst0) A := (r'.fr (eqc_SL (by unfold Pn; decide)) ⟨(by simp [dnSL, dnUp]), rfl, rfl, rfl, rfl⟩).fr (eqc_SD (by unfold Pn; decide)) ⟨rfl, rfl, rfl, rfl, rfl⟩
    have s1 : Sh (dnSL k 289 20 0) := r'.1
    have i2 : (dnSD (dnSL k 289 20 0) 289 21 FP.dconst0).2.2.1 289 20 = 0 := by simp [dnSI, dnSL, dnSD, dnUp]
    have i3 : (dnSD (dnSL k 289 20 0) 289 21 FP.dconst0).2.2.2.1 289 21 = FP.dconst0 := by simp [dnSI, dnSL, dnSD, dnUp]
    have KK := it_inv (f := fX13_dotAnswer_b113 (some 289) (nI a) (nI r) (nI t) (nI n)) (Q := fun _ k => RS q0 [] k A ∧ k.2.2.1 289 20 = S n ∧ k.2.2.2.1 289 21 = T n) (fun j s k => s = nI j ∧ RS q0 [] k A ∧ k.2.2.1 289 20 = S j ∧ k.2.2.2.1 289 21 = T j) n 1000 0 (by omega) (by omega) ?_ ?_ (nI 0) _ ⟨rfl, h1, i2, i3⟩
    · obtain ⟨_, k2, b1, r2, j2, j3⟩ := KK
      rw [nI_0] at b1
      obtain ⟨t1, t2⟩ := tells_A r2 v (nI n)
      refine ⟨_, _, dr q0 k r' _ ?_, t2⟩
      by_cases q : a = 7
      · have ev : v = FP.d2l (FP.dmul 4620693217682128896 (T n)) := if_pos q
        have z7 := not_not_intro (a7.mpr q)
        rw [ev] at t1 ⊢
        simp only [fX13_dotAnswer_j100, fX13_dotAnswer_j245, dnB_eval, p_289_20 r'.1, p_289_21 s1, b1, z7, if_false, g_289_21 r2.1, j3, n64_ok c8, v_289 r2.1, t1, dnP]
      · have ev : v = S n := if_neg q
        have z7 := mt a7.mp q
        rw [ev] at t1 ⊢
        simp only [fX13_dotAnswer_j100, fX13_dotAnswer_j245, dnB_eval, p_289_20 r'.1, p_289_21 s1, b1, z7, not_false_eq_true, if_true, g_289_20 r2.1, j2, v_289 r2.1, t1, dnP]
    · rintro j s k hj ⟨rfl, rk, j2, j3⟩
      left
      have hc : ¬ (nI n ≤ nI j) := fun hc => by have := (nI_leI (a := n) (b := j) (by omega) (by omega)).mp hc; omega
      obtain ⟨k2, k3, u1, u2, u3, u4, u5, u6⟩ := lw_A (B := B) (i := j) rk hr hl (by omega) a8 (hrw.2.2 j (by omega)) (tkr j hj)
      obtain ⟨k4, k5, o1, o2, o3, o4, o5, o6⟩ := lw_A (B := B) (i := j) u4 ht hlt (by omega) a8 (htw.2.2 j (by omega)) (tkt j hj)
      have u5 : hv k3 (x j) := u5
      have o5 : hv k5 (y j) := o5
      have f20 : k5.2.2.1 289 20 = S j := (o6.2.1.trans u6.2.1).trans j2
      have f21 : k5.2.2.2.1 289 21 = T j := (o6.2.2.trans u6.2.2).trans j3
      have r5 : RS q0 [] (dnSL k5 289 20 (S (j + 1))) A := o4.fr (eqc_SL (by unfold Pn; decide)) ⟨(by simp [dnSL, dnUp]), rfl, rfl, rfl, rfl⟩
      have r6 : RS q0 [] (dnSD (dnSL k5 289 20 (S (j + 1))) 289 21 (T (j + 1))) A := r5.fr (eqc_SD (by unfold Pn; decide)) ⟨rfl, rfl, rfl, rfl, rfl⟩
      have g21 : (dnSL k5 289 20 (S (j + 1))).2.2.2.1 289 21 = T j := f21
      have g14 : (dnSL k5 289 20 (S (j + 1))).2.2.2.1 289 14 = (y j).2.2 := o5.2.2
      refine ⟨nI (j + 1), _, ?_, rfl, r6, (by simp [dnSI, dnSL, dnSD, dnUp]), (by simp [dnSI, dnSL, dnSD, dnUp])⟩
      have T1 : FP.dadd (T j) (FP.dmul (x j).2.2 (y j).2.2) = T (j + 1) := rfl
      have S1 : nrw a (S j + (x j).2.1 * (y j).2.1) = S (j + 1) := rfl
      have sm' := sm j hj
      rw [T1] at sm'
      rcases ha with e | e | e
      · have z4 := not_not_intro (a4.mpr e)
        have S2 : (S j + (x j).2.1 * (y j).2.1).toInt32.toInt64 = S (j + 1) := by rw [← S1, e]; rfl
        simp only [fX13_dotAnswer_b113, fX13_dotAnswer_j196, dnB_eval, hc, if_false, v_289 rk.1, u1, v_289 u2.1, u3, g_289_13 u4.1, g_289_14 u4.1, u5.2.1, u5.2.2, v_289 u4.1, o1, v_289 o2.1, o3, z4, g_289_20 o4.1, g_289_13 o4.1, f20, o5.2.1, S2, p_289_20 o4.1, g_289_21 r5.1, g_289_14 r5.1, g21, g14, n64_ok (pm j hj), T1, n64_ok sm', p_289_21 r5.1, dnP, nI_1]
      · have z4 : ¬ nI a = 4 := mt a4.mp (by omega)
        have S2 : S j + (x j).2.1 * (y j).2.1 = S (j + 1) := by rw [← S1, e]; rfl
        simp only [fX13_dotAnswer_b113, fX13_dotAnswer_j196, dnB_eval, hc, if_false, v_289 rk.1, u1, v_289 u2.1, u3, g_289_13 u4.1, g_289_14 u4.1, u5.2.1, u5.2.2, v_289 u4.1, o1, v_289 o2.1, o3, z4, not_false_eq_true, if_true, g_289_20 o4.1, g_289_13 o4.1, f20, o5.2.1, S2, p_289_20 o4.1, g_289_21 r5.1, g_289_14 r5.1, g21, g14, n64_ok (pm j hj), T1, n64_ok sm', p_289_21 r5.1, dnP, nI_1]
      · have z4 : ¬ nI a = 4 := mt a4.mp (by omega)
        have S2 : S j + (x j).2.1 * (y j).2.1 = S (j + 1) := by rw [← S1, e]; rfl
        simp only [fX13_dotAnswer_b113, fX13_dotAnswer_j196, dnB_eval, hc, if_false, v_289 rk.1, u1, v_289 u2.1, u3, g_289_13 u4.1, g_289_14 u4.1, u5.2.1, u5.2.2, v_289 u4.1, o1, v_289 o2.1, o3, z4, not_false_eq_true, if_true, g_289_20 o4.1, g_289_13 o4.1, f20, o5.2.1, S2, p_289_20 o4.1, g_289_21 r5.1, g_289_14 r5.1, g21, g14, n64_ok (pm j hj), T1, n64_ok sm', p_289_21 r5.1, dnP, nI_1]
    · rintro s k ⟨rfl, rk, j2, j3⟩
      exact ⟨(), k, by simp only [fX13_dotAnswer_b113, Int32.le_refl, if_true, dnP], rk, j2, j3⟩

theorem call_dot {B : Nat} (hB : 16 ≤ B) (hB2 : B < 2 ^ 24) (g p g2 p2 s : Int32) : Call B B (fX12_dot (some 0) g p g2 p2 s) (fX13_dot (some 289) g p g2 p2 s) :=
  callA (Nat.le_refl _) (fun h v h1 s1 s2 e => by simp only [fX12_dot, dnB_eval, g_0_6 s1, v_269 s1, e, v_0 s2, tally_c s2, dnP]) (fun h v h1 s1 s2 e => by simp only [fX13_dot, dnB_eval, v_289 s1, e, v_289 s2, said_r s2, dnP]) (step_dot hB hB2 g p g2 p2 s)
