/-! ABS 51: regions: the class's spread -/
def Sk (h : dnH) (M S : Nat → Bool) (n : Nat) (L : Nat → Nat) : Prop := (∀ c, c < 72 → h.2.1 280 c = if (M c || S c) = true then 1 else 0) ∧ (∀ i, i < n → h.2.1 279 i = nI (L i)) ∧ h.2.1 274 4 = nI n
theorem fr274 {h0 h : dnH} {S : Nat → Int32} {X : List Nat} {A : Ab} {a k : Nat} {v : Int32} (c : CS h0 S X h A) (ha : a = 274 ∨ a = 279 ∨ a = 280) : CS h0 S X (dnSI h a k v) A := c.fr (eqc_SI (by omega))
theorem dv12 {x : Nat} (hx : x < 100) : nI x / 12 = nI (x / 12) := div_I (b := 12) (by omega) (by decide)
theorem md12 {x : Nat} (hx : x < 100) : nI x - nI (x / 12) * 12 = nI (x % 12) := by
  rw [show (12 : Int32) = nI 12 from rfl, nI_mul, nI_sub (by omega), show x - x / 12 * 12 = x % 12 by omega]
theorem ml12 (x : Nat) : nI (x / 12) * 12 + nI (x % 12) = nI x := by
  rw [show (12 : Int32) = nI 12 from rfl, nI_mul, nI_add, show x / 12 * 12 + x % 12 = x by omega]
theorem n12 : ¬ (12 : Int32) = 0 := by decide
theorem reach_c {h0 h : dnH} {A : Ab} {M S : Nat → Bool} {n b : Nat} {L : Nat → Nat} (c : CS h0 sp0 [] h A) (k : Sk h M S n L) (hb : b < 72) (hn : n < 72) : ∃ h2, fX4_reach (some 274) (nI (b / 12)) (nI (b % 12)) h = some ((), h2) ∧ CS h0 sp0 [] h2 A ∧ Sk h2 M (upO S b) (n + 1) (fun i => if i = n then b else L i) := by
  obtain ⟨k1, k2, k3⟩ := k
  have c1 : CS h0 sp0 [] (dnSI h 280 b 1) A := fr274 c (by omega)
  have c2 : CS h0 sp0 [] (dnSI (dnSI h 280 b 1) 279 n (nI b)) A := fr274 c1 (by omega)
  have c3 : CS h0 sp0 [] (dnSI (dnSI (dnSI h 280 b 1) 279 n (nI b)) 274 4 (nI (n + 1))) A := fr274 c2 (by omega)
  have e1 : (dnSI h 280 b 1).2.1 274 4 = nI n := by rw [← k3]; simp [dnSI, dnSL, dnSD, dnUp]
  have e2 : (dnSI (dnSI h 280 b 1) 279 n (nI b)).2.1 274 4 = nI n := by rw [← k3]; simp [dnSI, dnSL, dnSD, dnUp]
  refine ⟨_, ?_, c3, fun x hx => ?_, fun i hi => ?_, ?_⟩
  · simp only [fX4_reach, dnB_eval, g_274_5 c.1, ml12, t_280 c.1, dnIn_nI hb (by decide), nI_clamp (show b < 2 ^ 31 by omega), if_true, g_274_3 c1.1, g_274_4 c1.1, e1, t_279 c1.1, dnIn_nI hn (by decide), nI_clamp (show n < 2 ^ 31 by omega), g_274_4 c2.1, e2, nI_1, p_274_4 c2.1, dnP]
  · have e : (dnSI (dnSI (dnSI h 280 b 1) 279 n (nI b)) 274 4 (nI (n + 1))).2.1 280 x = if x = b then 1 else h.2.1 280 x := by simp [dnSI, dnSL, dnSD, dnUp]
    rw [e]
    by_cases q : x = b
    · subst q
      rw [if_pos rfl, upO_b, Bool.or_true]
      rfl
    · rw [if_neg q, k1 x hx]
      have : upO S b x = S x := by unfold upO; rw [decide_eq_false q, Bool.or_false]
      rw [this]
  · have e : (dnSI (dnSI (dnSI h 280 b 1) 279 n (nI b)) 274 4 (nI (n + 1))).2.1 279 i = if i = n then nI b else h.2.1 279 i := by simp [dnSI, dnSL, dnSD, dnUp]
    rw [e]
    by_cases q : i = n
    · simp only [q, if_true]
    · simp only [q, if_false]
      exact k2 i (by omega)
  · simp [dnSI, dnSL, dnSD, dnUp]
def SpI (A : Ab) (G m s : Nat) (M : Nat → Bool) (h0 h : dnH) (t : Nat) (S : Nat → Bool) (n : Nat) (L : Nat → Nat) : Prop := CS h0 sp0 [] h A ∧ Sk h M S n L ∧ Lst S n L ∧ (∀ c, S c = true → Cl (nbr (sg A G m)) s c ∧ (ceO (sg A G m) c).isSome = true) ∧ S s = true ∧ (∀ i, i < t → ∀ b, nbr (sg A G m) (L i) b = true → S b = true) ∧ t ≤ n
theorem ce_y {A : Ab} {G m b r : Nat} (e : sg A G m (b / 12) = some (A.2.2.1 r)) : ceO (sg A G m) b = if b % 12 < (A.2.2.1 r).2.1 then some ((A.2.2.1 r).2.2 (b % 12)) else none := by
  unfold ceO
  rw [e]
theorem ce_n {A : Ab} {G m b : Nat} (e : sg A G m (b / 12) = none) : ceO (sg A G m) b = none := by
  unfold ceO
  rw [e]
/-- what a step to the cell b may give -/
def StI (A : Ab) (G m s : Nat) (M : Nat → Bool) (h0 : dnH) (t : Nat) (S : Nat → Bool) (n : Nat) (L : Nat → Nat) (b : Nat → Prop) (o : Option (Unit × dnH)) : Prop := ∃ h2 S2 n2 L2, o = some ((), h2) ∧ SpI A G m s M h0 h2 t S2 n2 L2 ∧ n ≤ n2 ∧ (∀ i, i < n → L2 i = L i) ∧ (∀ c, S c = true → S2 c = true) ∧ ∀ x, b x → nbr (sg A G m) (L t) x = true → S2 x = true
theorem sti_no {A : Ab} {G m s : Nat} {M : Nat → Bool} {h0 h : dnH} {t : Nat} {S : Nat → Bool} {n : Nat} {L : Nat → Nat} {b : Nat → Prop} {o : Option (Unit × dnH)} (I : SpI A G m s M h0 h t S n L) (e : o = some ((), h)) (hb : ∀ x, b x → nbr (sg A G m) (L t) x = true → S x = true) : StI A G m s M h0 t S n L b o := ⟨h, S, n, L, e, I, Nat.le_refl _, fun _ _ => rfl, fun _ hc => hc, hb⟩
theorem try_y {B : Nat} {A : Ab} (w : Wf B [] A) {G m s t n b : Nat} {M S : Nat → Bool} {L : Nat → Nat} (hG : G < 4) (hm : m ≤ 6) (e1 : A.1 G = nI m) (hM : clo (nbr (sg A G m)) M) (hs : M s = false) {h0 h : dnH} (I : SpI A G m s M h0 h t S n L) (ht : t < n) (hb : b < 84) (hbd : bsd (L t) b = true) : StI A G m s M h0 t S n L (fun x => x = b) (fX4_tryStep (some 274) (nI G) (nI (L t)) (nI (b / 12)) (nI (b % 12)) h) := by
  have I0 := I
  obtain ⟨c, k, l, hS, hss, hcl, htn⟩ := I
  obtain ⟨a72, aS⟩ := l.1 t ht
  obtain ⟨aC, aO⟩ := hS _ aS
  rcases sg_A w hG hm e1 (show L t / 12 < 12 by omega) with ⟨ea, -, -⟩ | ⟨ra, hra, ea, la, oa, -, ka, -⟩
  · rw [ce_n ea] at aO; cases aO
  have ka := ka h0 _ _ h c
  have o12 := oa.2.1
  rw [ce_y ea] at aO
  have aq : L t % 12 < (A.2.2.1 ra).2.1 := by
    by_cases q : L t % 12 < (A.2.2.1 ra).2.1
    · exact q
    · rw [if_neg q] at aO; cases aO
  have ca : ceO (sg A G m) (L t) = some ((A.2.2.1 ra).2.2 (L t % 12)) := by rw [ce_y ea, if_pos aq]
  have no : ceO (sg A G m) b = none → ∀ x, x = b → nbr (sg A G m) (L t) x = true → S x = true := fun hn x hx hh => by
    subst hx
    have := (nbr_some hh).2
    rw [hn] at this
    cases this
  rcases sg_A w hG hm e1 (show b / 12 < 12 by omega) with ⟨eb, kb, -⟩ | ⟨rb, hrb, eb, lb, ob, bm, kb, -⟩
  · have kb := kb h0 _ _ h c
    refine sti_no I0 ?_ (no (ce_n eb))
    simp only [fX4_tryStep, dnB_eval, g_274_0 c.1, dnNz, n12, if_false, sv (st1 c.1), dv12 (show L t < 100 by omega), ka, kb, Option.elim, dnP]
  have kb := kb h0 _ _ h c
  have ob12 := ob.2.1
  have b72 : b < 72 := by omega
  have rb2 := c.row hrb (lb [])
  have hcl2 := hasCell_cN (i := b % 12) (row1 c.1 hrb) rb2.2.1 ob.2.1 (by omega)
  by_cases bq : b % 12 < (A.2.2.1 rb).2.1
  case neg =>
    refine sti_no I0 ?_ (no (by rw [ce_y eb, if_neg bq]))
    simp only [fX4_tryStep, dnB_eval, g_274_0 c.1, dnNz, n12, if_false, sv (st1 c.1), dv12 (show L t < 100 by omega), ka, kb, Option.elim, rv (row1 c.1 hrb), hcl2, bq, decide_false, Bool.false_eq_true, dnP]
  have cb : ceO (sg A G m) b = some ((A.2.2.1 rb).2.2 (b % 12)) := by rw [ce_y eb, if_pos bq]
  have nb : nbr (sg A G m) (L t) b = lkC ((A.2.2.1 ra).2.2 (L t % 12)) ((A.2.2.1 rb).2.2 (b % 12)) := by
    unfold nbr
    rw [hbd, ca, cb]
    rfl
  have s280 := k.1 b b72
  have mt := matches_A (row1 c.1 hra) (row1 c.1 hrb) (c.row hra (la [])) rb2 (show L t % 12 < 12 by omega) (show b % 12 < 12 by omega) (oa.2.2 _ (by omega)).1 (ob.2.2 _ (by omega)).1
  rw [← nb] at mt
  by_cases sq : (M b || S b) = true
  · rw [if_pos sq] at s280
    refine sti_no I0 ?_ (fun x hx hh => ?_)
    · simp only [fX4_tryStep, dnB_eval, g_274_0 c.1, dnNz, n12, if_false, sv (st1 c.1), dv12 (show L t < 100 by omega), ka, kb, Option.elim, rv (row1 c.1 hrb), hcl2, bq, decide_true, if_true, g_274_5 c.1, ml12, a_280 c.1, dnIn_nI b72 (by decide), nI_clamp (show b < 2 ^ 31 by omega), s280, not_true_eq_false, dnP]
    · subst hx
      have := cl_out nbr_comm hM hs (cl_step aC hh)
      rw [this, Bool.false_or] at sq
      exact sq
  · rw [if_neg sq] at s280
    have sb : S b = false := by
      cases q : S b with
      | false => rfl
      | true => rw [q, Bool.or_true] at sq; exact absurd rfl sq
    have z1 : ¬ ((0 : Int32) = 1) := by decide
    cases hl : nbr (sg A G m) (L t) b with
    | false =>
      rw [hl] at mt
      refine sti_no I0 ?_ (fun x hx hh => by subst hx; rw [hl] at hh; cases hh)
      simp only [fX4_tryStep, dnB_eval, g_274_0 c.1, dnNz, n12, if_false, sv (st1 c.1), dv12 (show L t < 100 by omega), md12 (show L t < 100 by omega), ka, kb, Option.elim, rv (row1 c.1 hrb), rv (row1 c.1 hra), hcl2, bq, decide_true, if_true, g_274_5 c.1, ml12, a_280 c.1, dnIn_nI b72 (by decide), nI_clamp (show b < 2 ^ 31 by omega), s280, z1, not_false_eq_true, mt, Bool.false_eq_true, dnP]
    | true =>
      rw [hl] at mt
      have n72 := lst_lt l b72 sb
      obtain ⟨h2, x1, x2, x3⟩ := reach_c c k b72 n72
      have l2 := lst_up l b72 sb
      refine ⟨h2, upO S b, n + 1, _, ?_, ⟨x2, x3, l2, fun y hy => ?_, upO_in hss, fun i hi y hy => ?_, by omega⟩, by omega, fun i hi => if_neg (by omega), fun y hy => upO_in hy, fun x hx _ => by rw [hx]; exact upO_b⟩
      · simp only [fX4_tryStep, dnB_eval, g_274_0 c.1, dnNz, n12, if_false, sv (st1 c.1), dv12 (show L t < 100 by omega), md12 (show L t < 100 by omega), ka, kb, Option.elim, rv (row1 c.1 hrb), rv (row1 c.1 hra), hcl2, bq, decide_true, if_true, g_274_5 c.1, ml12, a_280 c.1, dnIn_nI b72 (by decide), nI_clamp (show b < 2 ^ 31 by omega), s280, z1, not_false_eq_true, mt, v_274 c.1, x1, dnP]
      · rcases upO_of hy with hy | hy
        · exact hS y hy
        · rw [hy]
          exact ⟨cl_step aC hl, (nbr_some hl).2⟩
      · have hy : nbr (sg A G m) (if i = n then b else L i) y = true := hy
        rw [if_neg (by omega)] at hy
        exact upO_in (hcl i hi y hy)
/-- a step that leaves the grid -/
theorem try_n {B : Nat} {A : Ab} (w : Wf B [] A) {G m s t n : Nat} {M S : Nat → Bool} {L : Nat → Nat} (hG : G < 4) (hm : m ≤ 6) (e1 : A.1 G = nI m) {h0 h : dnH} (I : SpI A G m s M h0 h t S n L) (ht : t < n) {p i : Int32} (hp : p = -1 ∨ (p = nI (L t / 12) ∧ (i = -1 ∨ i = 12))) : StI A G m s M h0 t S n L (fun _ => False) (fX4_tryStep (some 274) (nI G) (nI (L t)) p i h) := by
  have I0 := I
  obtain ⟨c, k, l, hS, hss, hcl, htn⟩ := I
  obtain ⟨a72, aS⟩ := l.1 t ht
  obtain ⟨aC, aO⟩ := hS _ aS
  rcases sg_A w hG hm e1 (show L t / 12 < 12 by omega) with ⟨ea, -, -⟩ | ⟨ra, hra, ea, la, oa, -, ka, -⟩
  · rw [ce_n ea] at aO; cases aO
  have ka := ka h0 _ _ h c
  refine sti_no I0 ?_ (fun x hx => hx.elim)
  rcases hp with rfl | ⟨rfl, hi⟩
  · have kb : fX9_rowAt (some 1) (nI G) (-1) h = some (none, h) := by
      rcases lookR w (nI G) (-1) with ⟨f, -, -, k1, -⟩ | ⟨G2, q, m2, r, -, hq, hm2, -, -, ep, -⟩
      · exact (k1 h0 _ _ h c).1
      · have : (nI q).toInt = -1 := by rw [← ep]; rfl
        rw [nI_toInt (by omega)] at this
        omega
    simp only [fX4_tryStep, dnB_eval, g_274_0 c.1, dnNz, n12, if_false, sv (st1 c.1), dv12 (show L t < 100 by omega), ka, kb, Option.elim, dnP]
  · have hc := hasCell_c (row1 c.1 hra) (c.row hra (la [])).2.1 oa.2.1 i
    have o12 := oa.2.1
    have hf : decide (0 ≤ i.toInt ∧ i.toInt < (A.2.2.1 ra).2.1) = false := by
      refine decide_eq_false (fun hh => ?_)
      rcases hi with rfl | rfl
      · have : ((-1 : Int32)).toInt = -1 := rfl
        omega
      · have : ((12 : Int32)).toInt = 12 := rfl
        omega
    rw [hf] at hc
    simp only [fX4_tryStep, dnB_eval, g_274_0 c.1, dnNz, n12, if_false, sv (st1 c.1), dv12 (show L t < 100 by omega), ka, Option.elim, rv (row1 c.1 hra), hc, Bool.false_eq_true, dnP]
