/-! ABS 53: regions: the reference's marks -/
def Mk (h : dnH) (l : Nat → Nat) : Prop := ∀ c, c < 72 → h.2.1 307 c = nI (l c)
def lbl (ol : Nat → Nat) (T : Nat → Bool) (K c : Nat) : Nat := if T c = true then K else ol c
theorem set307 {h0 h : dnH} {X : List Nat} {A : Ab} {k : Nat} {v : Int32} (c : RS h0 X h A) : RS h0 X (dnSI h 307 k v) A := c.fr (eqc_SI (by unfold Pn; omega)) ⟨rfl, (by simp [dnSI, dnSL, dnSD, dnUp]), (by simp [dnSI, dnSL, dnSD, dnUp]), (by simp [dnSI, dnSL, dnSD, dnUp]), (by simp [dnSI, dnSL, dnSD, dnUp])⟩
theorem mk_A {h0 h : dnH} {X : List Nat} {A : Ab} {l : Nat → Nat} {x : Nat} (c : RS h0 X h A) (k : Mk h l) (hx : x < 72) : dnAI (some 307) 100 (nI x) h = some (nI (l x), h) := by
  rw [a_307 c.1, dnIn_nI hx (by decide), nI_clamp (by omega), k x hx]
  rfl
theorem mk_set {h0 h : dnH} {X : List Nat} {A : Ab} {l : Nat → Nat} {x v : Nat} (c : RS h0 X h A) (k : Mk h l) (hx : x < 72) : dnTI (some 307) 100 (nI x) (nI v) h = some ((), dnSI h 307 x (nI v)) ∧ RS h0 X (dnSI h 307 x (nI v)) A ∧ Mk (dnSI h 307 x (nI v)) (fun c => if c = x then v else l c) := by
  refine ⟨?_, set307 c, fun y hy => ?_⟩
  · rw [t_307 c.1, dnIn_nI hx (by decide), nI_clamp (by omega)]
    rfl
  · have e : (dnSI h 307 x (nI v)).2.1 307 y = if y = x then nI v else h.2.1 307 y := by simp [dnSI, dnSL, dnSD, dnUp]
    rw [e]
    by_cases q : y = x
    · simp only [q, if_true]
    · simp only [q, if_false]
      exact k y hy
theorem lbl_up {ol : Nat → Nat} {T : Nat → Bool} {K x : Nat} : (fun c => if c = x then K else lbl ol T K c) = lbl ol (upO T x) K := by
  funext c
  unfold lbl
  by_cases q : c = x
  · rw [if_pos q, q, if_pos upO_b]
  · have : upO T x c = T c := by unfold upO; rw [decide_eq_false q, Bool.or_false]
    rw [if_neg q, this]
theorem cellAt_A {B : Nat} {A : Ab} (w : Wf B [] A) {G m x : Nat} (hG : G < 4) (hm : m ≤ 6) (e1 : A.1 G = nI m) (ho : (ceO (sg A G m) x).isSome = true) : ∃ r, r < 31 ∧ (∀ Y, live Y A r) ∧ rwOk B (A.2.2.1 r) ∧ x % 12 < (A.2.2.1 r).2.1 ∧ sg A G m (x / 12) = some (A.2.2.1 r) ∧ ceO (sg A G m) x = some ((A.2.2.1 r).2.2 (x % 12)) ∧ (∀ h0 S Y h, CS h0 S Y h A → fX9_rowAt (some 1) (nI G) (nI (x / 12)) h = some (some (5 + 4 * r), h)) ∧ (∀ q0 Y k, RS q0 Y k A → fX13_held (some 289) (nI G) (nI (x / 12)) k = some (nI r, k) ∧ fX13_hasCell (some 289) (nI G) (nI (x / 12)) (nI (x % 12)) k = some (true, k) ∧ fX13_cellAt (some 289) (nI G) (nI x) k = some (nI (12 * r + x % 12), k)) := by
  have x72 := ce_lt hm ho
  rcases sg_A w hG hm e1 (show x / 12 < 12 by omega) with ⟨e, -, -⟩ | ⟨r, hr, e, l, o, -, kc, kr⟩
  · rw [ce_n e] at ho; cases ho
  have q : x % 12 < (A.2.2.1 r).2.1 := by
    by_cases q : x % 12 < (A.2.2.1 r).2.1
    · exact q
    · rw [ce_y e, if_neg q] at ho; cases ho
  refine ⟨r, hr, l, o, q, e, by rw [ce_y e, if_pos q], kc, fun q0 Y k c => ?_⟩
  obtain ⟨k1, k2⟩ := kr q0 Y k c
  have k3 := k2 (x % 12) (by omega)
  rw [decide_eq_true q] at k3
  refine ⟨k1, k3, ?_⟩
  simp only [fX13_cellAt, dnB_eval, dnNz, n12, if_false, v_289 c.1, dv12 (show x < 100 by omega), k1, md12 (show x < 100 by omega), at_r, dnP]
def jn (A : Ab) (G m : Nat) (T : Nat → Bool) (x y : Nat) : Bool := T y && lkO (ceO (sg A G m) y) (ceO (sg A G m) x)
theorem joins_r {B : Nat} {A : Ab} (w : Wf B [] A) {G m x y K : Nat} {ol : Nat → Nat} {T : Nat → Bool} (hG : G < 4) (hm : m ≤ 6) (e1 : A.1 G = nI m) (hx : x < 72) (hy : y < 72) (hK : K < 2 ^ 31) (hol : ∀ c, c < 72 → ol c < K) (hT : ∀ c, T c = true → (ceO (sg A G m) c).isSome = true) {q0 h : dnH} {X : List Nat} (c : RS q0 X h A) (k : Mk h (lbl ol T K)) : fX13_joins (some 289) (nI G) (nI x) (nI y) (nI K) h = some (jn A G m T x y, h) := by
  have my := mk_A c k hy
  have ml : lbl ol T K y < 2 ^ 31 := by
    unfold lbl
    have := hol y hy
    split <;> omega
  have ee : (nI (lbl ol T K y) = nI K) ↔ T y = true := by
    rw [nI_eq ml hK]
    unfold lbl
    have := hol y hy
    by_cases q : T y = true
    · rw [if_pos q]; exact ⟨fun _ => q, fun _ => rfl⟩
    · rw [if_neg q]; exact ⟨fun hh => by omega, fun hh => absurd hh q⟩
  unfold jn
  cases ty : T y with
  | false =>
    rw [ty] at ee
    have ne : ¬ nI (lbl ol T K y) = nI K := fun hh => by have := ee.mp hh; cases this
    simp only [fX13_joins, dnB_eval, g_289_26 c.1, my, ne, not_false_eq_true, if_true, dnP, Bool.false_and]
  | true =>
    rw [ty] at ee
    have eq := ee.mpr rfl
    obtain ⟨ry, hry, ly, oy, qy, sy, cy, -, ky⟩ := cellAt_A w hG hm e1 (hT y ty)
    obtain ⟨-, -, ky3⟩ := ky q0 X h c
    rw [Bool.true_and, cy]
    cases hxx : ceO (sg A G m) x with
    | none =>
      have hh : fX13_hasCell (some 289) (nI G) (nI (x / 12)) (nI (x % 12)) h = some (false, h) := by
        rcases sg_A w hG hm e1 (show x / 12 < 12 by omega) with ⟨e, -, kr⟩ | ⟨r, hr, e, l, o, -, -, kr⟩
        · exact kr q0 X h c (x % 12) (by omega)
        · rw [(kr q0 X h c).2 (x % 12) (by omega)]
          rw [ce_y e] at hxx
          by_cases q : x % 12 < (A.2.2.1 r).2.1
          · rw [if_pos q] at hxx; cases hxx
          · rw [decide_eq_false q]
      simp only [fX13_joins, dnB_eval, g_289_26 c.1, my, eq, not_true_eq_false, if_false, dnNz, n12, dv12 (show x < 100 by omega), md12 (show x < 100 by omega), v_289 c.1, hh, Bool.false_eq_true, dnP]
      rfl
    | some cx =>
      obtain ⟨rx, hrx, lx, ox, qx, sx, cx2, -, kx⟩ := cellAt_A w hG hm e1 (show (ceO (sg A G m) x).isSome = true by rw [hxx]; rfl)
      obtain ⟨-, kx2, kx3⟩ := kx q0 X h c
      have o1 := oy.2.1
      have o2 := ox.2.1
      have cl := cellsLike_A c hry (ly X) (show y % 12 < 12 by omega) hrx (lx X) (show x % 12 < 12 by omega) (oy.2.2 _ (by omega)).1 (ox.2.2 _ (by omega)).1
      have ecx : cx = (A.2.2.1 rx).2.2 (x % 12) := by rw [hxx] at cx2; exact Option.some.inj cx2
      have el : lkO (some ((A.2.2.1 ry).2.2 (y % 12))) (some cx) = lkC ((A.2.2.1 ry).2.2 (y % 12)) ((A.2.2.1 rx).2.2 (x % 12)) := by rw [ecx]; rfl
      rw [el]
      simp only [fX13_joins, dnB_eval, g_289_26 c.1, my, eq, not_true_eq_false, if_false, dnNz, n12, dv12 (show x < 100 by omega), md12 (show x < 100 by omega), v_289 c.1, kx2, if_true, ky3, kx3, cl, dnP]
      cases lkC ((A.2.2.1 ry).2.2 (y % 12)) ((A.2.2.1 rx).2.2 (x % 12)) <;> rfl
theorem beside_r {B : Nat} {A : Ab} (w : Wf B [] A) {G m x K : Nat} {ol : Nat → Nat} {T : Nat → Bool} (hG : G < 4) (hm : m ≤ 6) (e1 : A.1 G = nI m) (hx : x < 72) (hK : K < 2 ^ 31) (hol : ∀ c, c < 72 → ol c < K) (hT : ∀ c, T c = true → (ceO (sg A G m) c).isSome = true) {q0 h : dnH} {X : List Nat} (c : RS q0 X h A) (k : Mk h (lbl ol T K)) : ∃ v, fX13_isBeside (some 289) (nI G) (nI x) (nI K) h = some (v, h) ∧ (v = true ↔ ∃ y, T y = true ∧ nbr (sg A G m) y x = true) := by
  have J : ∀ y, y < 72 → fX13_joins (some 289) (nI G) (nI x) (nI y) (nI K) h = some (jn A G m T x y, h) := fun y hy => joins_r w hG hm e1 hx hy hK hol hT c k
  have j93 : ∀ b, fX13_isBeside_j93 (some 289) (nI G) (nI x) (nI K) b h = some (b || (decide (x < 60) && jn A G m T x (x + 12)), h) := fun b => by
    have ei : (60 : Int32) ≤ nI x ↔ 60 ≤ x := nI_leI (a := 60) (b := x) (by omega) (by omega)
    have ea : nI x + 12 = nI (x + 12) := nI_add (a := x) (b := 12)
    cases b with
    | true => simp only [fX13_isBeside_j93, fX13_isBeside_j120, if_true, dnP, Bool.true_or]
    | false =>
      by_cases q : x < 60
      · have hc : ¬ (60 : Int32) ≤ nI x := fun hh => by have := ei.mp hh; omega
        simp only [fX13_isBeside_j93, fX13_isBeside_j120, Bool.false_eq_true, if_false, hc, dnB_eval, v_289 c.1, ea, J (x + 12) (by omega), dnP, decide_eq_true q, Bool.true_and, Bool.false_or]
        cases jn A G m T x (x + 12) <;> rfl
      · have hc : (60 : Int32) ≤ nI x := ei.mpr (by omega)
        simp only [fX13_isBeside_j93, Bool.false_eq_true, if_false, hc, if_true, dnP, decide_eq_false q, Bool.false_and, Bool.or_false]
  have j61 : ∀ b, fX13_isBeside_j61 (some 289) (nI G) (nI x) (nI K) b h = some ((b || (decide (12 ≤ x) && jn A G m T x (x - 12))) || (decide (x < 60) && jn A G m T x (x + 12)), h) := fun b => by
    have ei : nI x < (12 : Int32) ↔ x < 12 := nI_ltI (a := x) (b := 12) (by omega) (by omega)
    cases b with
    | true => simp only [fX13_isBeside_j61, fX13_isBeside_j88, if_true, j93, Bool.true_or]
    | false =>
      by_cases q : 12 ≤ x
      · have hc : ¬ nI x < (12 : Int32) := fun hh => by have := ei.mp hh; omega
        have ea : nI x - 12 = nI (x - 12) := nI_sub (a := x) (b := 12) q
        simp only [fX13_isBeside_j61, fX13_isBeside_j88, fX13_isBeside_j92, Bool.false_eq_true, if_false, hc, dnB_eval, v_289 c.1, ea, J (x - 12) (by omega), j93, decide_eq_true q, Bool.true_and, Bool.false_or]
        cases jn A G m T x (x - 12) <;> simp only [j93, if_true, Bool.false_eq_true, if_false, Bool.true_or, Bool.false_or]
      · have hc : nI x < (12 : Int32) := ei.mpr (by omega)
        simp only [fX13_isBeside_j61, fX13_isBeside_j92, Bool.false_eq_true, if_false, hc, if_true, j93, decide_eq_false q, Bool.false_and, Bool.or_false]
  have j29 : ∀ b, fX13_isBeside_j29 (some 289) (nI G) (nI x) (nI K) (nI (x % 12)) b h = some (((b || (decide (x % 12 < 11) && jn A G m T x (x + 1))) || (decide (12 ≤ x) && jn A G m T x (x - 12))) || (decide (x < 60) && jn A G m T x (x + 12)), h) := fun b => by
    have ei : (11 : Int32) ≤ nI (x % 12) ↔ 11 ≤ x % 12 := nI_leI (a := 11) (b := x % 12) (by omega) (by omega)
    cases b with
    | true => simp only [fX13_isBeside_j29, fX13_isBeside_j56, if_true, j61, Bool.true_or]
    | false =>
      by_cases q : x % 12 < 11
      · have hc : ¬ (11 : Int32) ≤ nI (x % 12) := fun hh => by have := ei.mp hh; omega
        simp only [fX13_isBeside_j29, fX13_isBeside_j56, fX13_isBeside_j60, Bool.false_eq_true, if_false, hc, dnB_eval, v_289 c.1, nI_1, J (x + 1) (by omega), j61, decide_eq_true q, Bool.true_and, Bool.false_or]
        cases jn A G m T x (x + 1) <;> simp only [j61, if_true, Bool.false_eq_true, if_false, Bool.true_or, Bool.false_or]
      · have hc : (11 : Int32) ≤ nI (x % 12) := ei.mpr (by omega)
        simp only [fX13_isBeside_j29, fX13_isBeside_j60, Bool.false_eq_true, if_false, hc, if_true, j61, decide_eq_false q, Bool.false_and, Bool.or_false]
  refine ⟨(((((decide (1 ≤ x % 12) && jn A G m T x (x - 1)) || (decide (x % 12 < 11) && jn A G m T x (x + 1))) || (decide (12 ≤ x) && jn A G m T x (x - 12))) || (decide (x < 60) && jn A G m T x (x + 12)))), ?_, ?_⟩
  · have ei : nI (x % 12) ≤ (0 : Int32) ↔ x % 12 ≤ 0 := nI_leI (a := x % 12) (b := 0) (by omega) (by omega)
    by_cases q : 1 ≤ x % 12
    · have hc : ¬ nI (x % 12) ≤ (0 : Int32) := fun hh => by have := ei.mp hh; omega
      simp only [fX13_isBeside, fX13_isBeside_j28, dnB_eval, dnNz, n12, if_false, dv12 (show x < 100 by omega), md12 (show x < 100 by omega), hc, v_289 c.1, nI_sub1 (show 1 ≤ x by omega), J (x - 1) (by omega), j29, decide_eq_true q, Bool.true_and]
      cases jn A G m T x (x - 1) <;> simp only [j29, if_true, Bool.false_eq_true, if_false, Bool.true_or, Bool.false_or]
    · have hc : nI (x % 12) ≤ (0 : Int32) := ei.mpr (by omega)
      simp only [fX13_isBeside, fX13_isBeside_j28, dnB_eval, dnNz, n12, if_false, dv12 (show x < 100 by omega), md12 (show x < 100 by omega), hc, if_true, j29, decide_eq_false q, Bool.false_and, Bool.false_or]
  · simp only [Bool.or_eq_true_iff, Bool.and_eq_true_iff, decide_eq_true_iff]
    constructor
    · have go : ∀ y, bsd y x = true → jn A G m T x y = true → ∃ y, T y = true ∧ nbr (sg A G m) y x = true := fun y hy hj => by
        obtain ⟨h1, h2⟩ := Bool.and_eq_true_iff.mp hj
        exact ⟨y, h1, by unfold nbr; rw [hy, h2]; rfl⟩
      rintro (((⟨h1, h2⟩ | ⟨h1, h2⟩) | ⟨h1, h2⟩) | ⟨h1, h2⟩)
      · exact go _ (by unfold bsd; exact decide_eq_true (by omega)) h2
      · exact go _ (by unfold bsd; exact decide_eq_true (by omega)) h2
      · exact go _ (by unfold bsd; exact decide_eq_true (by omega)) h2
      · exact go _ (by unfold bsd; exact decide_eq_true (by omega)) h2
    · rintro ⟨y, h1, h2⟩
      obtain ⟨h3, h4⟩ := Bool.and_eq_true_iff.mp h2
      have y72 := ce_lt hm (hT y h1)
      have hj : jn A G m T x y = true := by unfold jn; rw [h1, h4]; rfl
      have h3 := of_decide_eq_true h3
      rcases h3 with h3 | h3 | h3 | h3
      · exact .inl (.inl (.inr ⟨by omega, by rw [show x + 1 = y by omega]; exact hj⟩))
      · exact .inl (.inl (.inl ⟨by omega, by rw [show x - 1 = y by omega]; exact hj⟩))
      · exact .inl (.inr ⟨by omega, by rw [show x - 12 = y by omega]; exact hj⟩)
      · exact .inr ⟨by omega, by rw [show x + 12 = y by omega]; exact hj⟩
