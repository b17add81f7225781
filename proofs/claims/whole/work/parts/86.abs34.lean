/-! ABS 34: lies -/
theorem dEq_comm (x y : UInt64) : dEq x y = dEq y x := by
  unfold dEq
  have h : FP.dcmp y x = (FP.dcmp x y).map Ordering.swap := FP.Core.dcmp_swap x y
  rw [h]
  cases FP.dcmp x y with
  | none => rfl
  | some o => cases o <;> rfl
theorem lkC_comm (c d : Cel) : lkC c d = lkC d c := by
  unfold lkC lk
  rw [Bool.and_comm (numN c.1) (numN d.1), Bool.or_comm (isRlN c.1) (isRlN d.1), dEq_comm]
  have e1 : decide (c.2.1 = d.2.1) = decide (d.2.1 = c.2.1) := by rw [decide_eq_decide]; exact eq_comm
  have e2 : decide (c.1 = d.1) = decide (d.1 = c.1) := by rw [decide_eq_decide]; exact eq_comm
  rw [e1, e2]
def ocR (W : Rw) (o : Option Rw) (i c : Nat) : Bool := match o with | none => false | some R => decide (i + c < R.2.1) && (decide ((W.2.2 c).1 = 11) || lkC (W.2.2 c) (R.2.2 (i + c)))
def Occ (A : Ab) (a ma b mb p i : Nat) : Prop := ∀ r, r < mb → ∀ W, gv A (6 * b + r) = some W → ∀ c, c < W.2.1 → ocR W (sg A a ma (p + r)) i c = true
theorem occ_row {B : Nat} {A : Ab} (w : Wf B [] A) {a ma p i t : Nat} (ha : a < 4) (hma : ma ≤ 6) (ea : A.1 a = nI ma) (hp : p < 12) (hi : i < 12) (ht : t < 31) (hlt : live [] A t) (ot : rwOk B (A.2.2.1 t)) {h0 h : dnH} (c : CS h0 sp0 [] h A) : ∃ rw b, fX9_rowAt (some 1) (nI a) (nI p) h = some (rw, h) ∧ fX7_rowOccurs (some (5 + 4 * t)) rw (nI i) h = some (b, h) ∧ (b = true ↔ ∀ j, j < (A.2.2.1 t).2.1 → ocR (A.2.2.1 t) (sg A a ma p) i j = true) := by
  have N1 := ot.2.1
  have rt := c.row ht hlt
  obtain ⟨rw, hrw, step⟩ : ∃ rw, fX9_rowAt (some 1) (nI a) (nI p) h = some (rw, h) ∧ ∀ j, j < (A.2.2.1 t).2.1 → fX7_rowOccurs_b2 (some (5 + 4 * t)) rw (nI i) (nI j) h = if ocR (A.2.2.1 t) (sg A a ma p) i j = true then some (.inl (nI (j + 1)), h) else some (.inr (.inr false), h) := by
    rcases sg_A w ha hma ea hp with ⟨e, kc, kr⟩ | ⟨r, hr, e, hl, o, -, kc, kr⟩
    · refine ⟨none, kc h0 _ _ h c, fun j hj => ?_⟩
      have hc : ¬ (nI (A.2.2.1 t).2.1 ≤ nI j) := fun hc => by have := (nI_leI (a := (A.2.2.1 t).2.1) (b := j) (by omega) (by omega)).mp hc; omega
      rw [e]
      simp only [fX7_rowOccurs_b2, dnB_eval, rg_i (row1 c.1 ht), rt.2.1, hc, if_false, Option.elim, dnP]
      rfl
    · refine ⟨some (5 + 4 * r), kc h0 _ _ h c, fun j hj => ?_⟩
      have hc : ¬ (nI (A.2.2.1 t).2.1 ≤ nI j) := fun hc => by have := (nI_leI (a := (A.2.2.1 t).2.1) (b := j) (by omega) (by omega)).mp hc; omega
      have rr := c.row hr (hl [])
      have o12 := o.2.1
      have hcl := hasCell_cN (i := i + j) (row1 c.1 hr) rr.2.1 o.2.1 (by omega)
      have s12 := (ot.2.2 j (by omega)).1
      have e11 : (nI ((A.2.2.1 t).2.2 j).1 = 11) ↔ ((A.2.2.1 t).2.2 j).1 = 11 := nI_eq (b := 11) (by omega) (by decide)
      rw [e]
      show _ = if (decide (i + j < (A.2.2.1 r).2.1) && (decide (((A.2.2.1 t).2.2 j).1 = 11) || lkC ((A.2.2.1 t).2.2 j) ((A.2.2.1 r).2.2 (i + j)))) = true then _ else _
      simp only [fX7_rowOccurs_b2, fX7_rowOccurs_j51, dnB_eval, rg_i (row1 c.1 ht), rt.2.1, hc, if_false, Option.elim, nI_add, rv (row1 c.1 hr), hcl]
      by_cases q : i + j < (A.2.2.1 r).2.1
      · have mt := matches_A (row1 c.1 ht) (row1 c.1 hr) rt rr (show j < 12 by omega) (show i + j < 12 by omega) s12 (o.2.2 (i + j) (by omega)).1
        simp only [q, decide_true, if_true, dnB_eval, rg_3 (row1 c.1 ht), ra_1 (row1 c.1 ht), dnIn_nI (show j < 12 by omega) (by decide), nI_clamp (show j < 2 ^ 31 by omega), (rt.2.2 j (by omega)).1, e11, Bool.true_and]
        by_cases q2 : ((A.2.2.1 t).2.2 j).1 = 11
        · simp only [q2, if_true, decide_true, Bool.true_or, dnP, nI_1]
        · simp only [q2, if_false, decide_false, Bool.false_or, dnB_eval, rv (row1 c.1 ht), mt, dnP, nI_1]
          cases lkC ((A.2.2.1 t).2.2 j) ((A.2.2.1 r).2.2 (i + j)) <;> rfl
      · simp only [q, decide_false, Bool.false_eq_true, if_false, Bool.false_and, dnP]
  have fin : fX7_rowOccurs_b2 (some (5 + 4 * t)) rw (nI i) (nI (A.2.2.1 t).2.1) h = some (.inr (.inl ()), h) := by
    simp only [fX7_rowOccurs_b2, dnB_eval, rg_i (row1 c.1 ht), rt.2.1, Int32.le_refl, if_true, dnP]
  rcases first_of (fun j => !ocR (A.2.2.1 t) (sg A a ma p) i j) (A.2.2.1 t).2.1 with hf | ⟨m, hm, h1, h2⟩
  · have hall : ∀ j, j < (A.2.2.1 t).2.1 → ocR (A.2.2.1 t) (sg A a ma p) i j = true := fun j hj => by simpa using hf j hj
    have := dnIt_run (f := fX7_rowOccurs_b2 (some (5 + 4 * t)) rw (nI i)) (q := .inl ()) (hq := h) (A.2.2.1 t).2.1 1000 (fun i => (nI i, h)) (by omega) (fun j hj => by rw [step j hj, hall j hj]; rfl) fin
    have this : dnIt 1000 (fX7_rowOccurs_b2 (some (5 + 4 * t)) rw (nI i)) 0 h = some (.inl (), h) := this
    exact ⟨rw, true, hrw, by simp only [fX7_rowOccurs, dnB_eval, this, Sum.elim_inl, dnP], fun _ => hall, fun _ => rfl⟩
  · have hno : ocR (A.2.2.1 t) (sg A a ma p) i m = false := by simpa using h1
    have hlo : ∀ j, j < m → ocR (A.2.2.1 t) (sg A a ma p) i j = true := fun j hj => by simpa using h2 j hj
    have := dnIt_run (f := fX7_rowOccurs_b2 (some (5 + 4 * t)) rw (nI i)) (q := .inr false) (hq := h) m 1000 (fun i => (nI i, h)) (by omega) (fun j hj => by rw [step j (by omega), hlo j hj]; rfl) (by rw [step m hm, hno]; rfl)
    have this : dnIt 1000 (fX7_rowOccurs_b2 (some (5 + 4 * t)) rw (nI i)) 0 h = some (.inr false, h) := this
    exact ⟨rw, false, hrw, by simp only [fX7_rowOccurs, dnB_eval, this, Sum.elim_inr, dnP], fun hc => (by cases hc), fun hc => by rw [hc m hm] at hno; cases hno⟩
theorem occ_c {B : Nat} {A : Ab} (w : Wf B [] A) {a ma b mb p i : Nat} (ha : a < 4) (hma : ma ≤ 6) (ea : A.1 a = nI ma) (hb : b < 4) (hmb : mb ≤ 6) (eb : A.1 b = nI mb) (hp : p < 6) (hi : i < 12) {h0 h : dnH} (c : CS h0 sp0 [] h A) : ∃ v, fX7_occursAt (some 270) (nI a) (nI b) (nI p) (nI i) h = some (v, h) ∧ (v = true ↔ Occ A a ma b mb p i) := by
  have KK := it_inv (f := fX7_occursAt_b3 (some 270) (nI a) (nI b) (nI p) (nI i)) (Q := fun s k => k = h ∧ ((s = .inl () ∧ Occ A a ma b mb p i) ∨ (s = .inr false ∧ ¬ Occ A a ma b mb p i))) (fun r s k => s = nI r ∧ k = h ∧ ∀ r2, r2 < r → ∀ W, gv A (6 * b + r2) = some W → ∀ c, c < W.2.1 → ocR W (sg A a ma (p + r2)) i c = true) mb 1000 0 (by omega) (by omega) ?_ ?_ (nI 0) h ⟨rfl, rfl, fun r2 hr2 => by omega⟩
  · obtain ⟨q, h2, e, rfl, hq⟩ := KK
    rw [nI_0] at e
    rcases hq with ⟨rfl, hq⟩ | ⟨rfl, hq⟩
    · exact ⟨true, by simp only [fX7_occursAt, dnB_eval, e, Sum.elim_inl, dnP], fun _ => hq, fun _ => rfl⟩
    · exact ⟨false, by simp only [fX7_occursAt, dnB_eval, e, Sum.elim_inr, dnP], fun hc => (by cases hc), fun hc => absurd hc hq⟩
  · rintro r s k hr ⟨rfl, rfl, hlo⟩
    have hc : ¬ (nI mb ≤ nI r) := fun hc => by have := (nI_leI (a := mb) (b := r) (by omega) (by omega)).mp hc; omega
    have pl : dnAI (some (1 + 1)) 100 (nI b) k = some (nI mb, k) := by rw [plc_A c hb, eb]
    rcases gv_A w hb hmb eb hr with ⟨e, kc, kr⟩ | ⟨t, ht, e, -, hl, o, kc, kr⟩
    · left
      refine ⟨nI (r + 1), k, ?_, rfl, rfl, fun r2 hr2 W hW => ?_⟩
      · simp only [fX7_occursAt_b3, fX7_occursAt_j58, dnB_eval, g_270_0 c.1, sg_0 (st1 c.1), pl, hc, if_false, sv (st1 c.1), kc h0 _ _ k c, Option.elim, dnP, nI_1]
      · by_cases q : r2 = r
        · subst q
          rw [e] at hW; cases hW
        · exact hlo r2 (by omega) W hW
    · obtain ⟨rw, v, e1, e2, e3⟩ := occ_row w (p := p + r) (i := i) ha hma ea (by omega) hi ht (hl []) o c
      cases v
      · right
        refine ⟨.inr false, k, ?_, rfl, .inr ⟨rfl, fun hO => ?_⟩⟩
        · simp only [fX7_occursAt_b3, dnB_eval, g_270_0 c.1, sg_0 (st1 c.1), pl, hc, if_false, sv (st1 c.1), kc h0 _ _ k c, Option.elim, nI_add, e1, e2, Bool.false_eq_true, dnP]
        · have := e3.mpr (fun j hj => hO r hr _ e j hj)
          cases this
      · left
        refine ⟨nI (r + 1), k, ?_, rfl, rfl, fun r2 hr2 W hW => ?_⟩
        · simp only [fX7_occursAt_b3, fX7_occursAt_j58, dnB_eval, g_270_0 c.1, sg_0 (st1 c.1), pl, hc, if_false, sv (st1 c.1), kc h0 _ _ k c, Option.elim, nI_add, e1, e2, if_true, dnP, nI_1]
        · by_cases q : r2 = r
          · subst q
            rw [e] at hW
            cases hW
            exact e3.mp rfl
          · exact hlo r2 (by omega) W hW
  · rintro s k ⟨rfl, rfl, hlo⟩
    have pl : dnAI (some (1 + 1)) 100 (nI b) k = some (nI mb, k) := by rw [plc_A c hb, eb]
    exact ⟨.inl (), k, by simp only [fX7_occursAt_b3, dnB_eval, g_270_0 c.1, sg_0 (st1 c.1), pl, Int32.le_refl, if_true, dnP], rfl, .inl ⟨rfl, hlo⟩⟩
theorem hd_A {h0 h : dnH} {X : List Nat} {A : Ab} {g p r : Nat} (c : RS h0 X h A) (hg : g < 4) (hp : p < 6) (hr : r < 31) (e : A.2.1 (6 * g + p) = nI r) : fX13_held (some 289) (nI g) (nI p) h = some (nI r, h) := by
  rw [held_r c.1 hg hp, c.hd (by omega), e, rc_nI hr]
theorem occ_r {B : Nat} {A : Ab} (w : Wf B [] A) {a ma b mb p i : Nat} (ha : a < 4) (hma : ma ≤ 6) (ea : A.1 a = nI ma) (hb : b < 4) (hmb : mb ≤ 6) (eb : A.1 b = nI mb) (hp : p < 6) (hi : i < 12) {h0 h : dnH} (c : RS h0 [] h A) : ∃ v, fX13_isLying (some 289) (nI a) (nI b) (nI p) (nI i) h = some (v, h) ∧ (v = true ↔ Occ A a ma b mb p i) := by
  have pl : dnAI (some 291) 100 (nI b) h = some (nI mb, h) := by rw [plr_A c hb, eb]
  have e12 : (12 : Int32) * nI mb = nI (12 * mb) := by rw [show (12 : Int32) = nI 12 from rfl, nI_mul]
  have n12 : ¬ (12 : Int32) = 0 := by decide
  have dv : ∀ x : Nat, x < 72 → nI x / 12 = nI (x / 12) := fun x hx => div_I (b := 12) (by omega) (by decide)
  have md : ∀ x : Nat, x < 72 → nI x - nI (x / 12) * 12 = nI (x % 12) := fun x hx => by
    rw [show (12 : Int32) = nI 12 from rfl, nI_mul, nI_sub (by omega), show x - x / 12 * 12 = x % 12 by omega]
  have KK := it_inv (f := fX13_isLying_b3 (some 289) (nI a) (nI b) (nI p) (nI i)) (Q := fun s k => k = h ∧ ((s = .inl () ∧ Occ A a ma b mb p i) ∨ (s = .inr false ∧ ¬ Occ A a ma b mb p i))) (fun x s k => s = nI x ∧ k = h ∧ ∀ y, y < x → ∀ W, gv A (6 * b + y / 12) = some W → y % 12 < W.2.1 → ocR W (sg A a ma (p + y / 12)) i (y % 12) = true) (12 * mb) 1000 0 (by omega) (by omega) ?_ ?_ (nI 0) h ⟨rfl, rfl, fun y hy => by omega⟩
  · obtain ⟨q, h2, e, rfl, hq⟩ := KK
    rw [nI_0] at e
    rcases hq with ⟨rfl, hq⟩ | ⟨rfl, hq⟩
    · exact ⟨true, by simp only [fX13_isLying, dnB_eval, e, Sum.elim_inl, dnP], fun _ => hq, fun _ => rfl⟩
    · exact ⟨false, by simp only [fX13_isLying, dnB_eval, e, Sum.elim_inr, dnP], fun hc => (by cases hc), fun hc => absurd hc hq⟩
  · rintro x s k hx ⟨rfl, rfl, hlo⟩
    have hc : ¬ (nI (12 * mb) ≤ nI x) := fun hc => by have := (nI_leI (a := 12 * mb) (b := x) (by omega) (by omega)).mp hc; omega
    have xm : x / 12 < mb := by omega
    have hcb := hasCell_N (j := x % 12) w hb hmb eb xm (by omega) h0 [] k c
    have go : (∀ W, gv A (6 * b + x / 12) = some W → x % 12 < W.2.1 → ocR W (sg A a ma (p + x / 12)) i (x % 12) = true) → ∀ y, y < x + 1 → ∀ W, gv A (6 * b + y / 12) = some W → y % 12 < W.2.1 → ocR W (sg A a ma (p + y / 12)) i (y % 12) = true := fun hx2 y hy W hW => by
      by_cases q : y = x
      · subst q
        exact hx2 W hW
      · exact hlo y (by omega) W hW
    rcases gv_A w hb hmb eb xm with ⟨e, kc, kr⟩ | ⟨t, ht, e, e3, hl, o, kc, kr⟩
    · left
      rw [e] at hcb
      refine ⟨nI (x + 1), k, ?_, rfl, rfl, go (fun W hW => by rw [e] at hW; cases hW)⟩
      simp only [fX13_isLying_b3, fX13_isLying_j112, dnB_eval, g_289_4 c.1, pl, e12, hc, if_false, dnNz, n12, dv x (by omega), md x (by omega), v_289 c.1, hcb, Bool.false_eq_true, dnP, nI_1]
    · rw [e] at hcb
      have o12 := o.2.1
      by_cases q : x % 12 < (A.2.2.1 t).2.1
      · have hct : decide (x % 12 < (A.2.2.1 t).2.1) = true := decide_eq_true q
        have hdt := hd_A c hb (show x / 12 < 6 by omega) ht e3
        have cat : fX13_cellAt (some 289) (nI b) (nI x) k = some (nI (12 * t + x % 12), k) := by
          simp only [fX13_cellAt, dnB_eval, dnNz, n12, if_false, v_289 c.1, dv x (by omega), hdt, md x (by omega), at_r, dnP]
        have s12 := (o.2.2 (x % 12) (by omega)).1
        have e11 : (nI ((A.2.2.1 t).2.2 (x % 12)).1 = 11) ↔ ((A.2.2.1 t).2.2 (x % 12)).1 = 11 := nI_eq (b := 11) (by omega) (by decide)
        have bad : ocR (A.2.2.1 t) (sg A a ma (p + x / 12)) i (x % 12) = false → fX13_isLying_b3 (some 289) (nI a) (nI b) (nI p) (nI i) (nI x) k = some (.inr (.inr false), k) → ∃ q h2, fX13_isLying_b3 (some 289) (nI a) (nI b) (nI p) (nI i) (nI x) k = some (.inr q, h2) ∧ (h2 = k ∧ ((q = .inl () ∧ Occ A a ma b mb p i) ∨ (q = .inr false ∧ ¬ Occ A a ma b mb p i))) := fun hoc he => ⟨.inr false, k, he, rfl, .inr ⟨rfl, fun hO => by
          rw [hO (x / 12) xm _ e (x % 12) q] at hoc
          cases hoc⟩⟩
        have good : ocR (A.2.2.1 t) (sg A a ma (p + x / 12)) i (x % 12) = true → fX13_isLying_b3 (some 289) (nI a) (nI b) (nI p) (nI i) (nI x) k = some (.inl (nI (x + 1)), k) → ∃ s2 h2, fX13_isLying_b3 (some 289) (nI a) (nI b) (nI p) (nI i) (nI x) k = some (.inl s2, h2) ∧ (s2 = nI (x + 1) ∧ h2 = k ∧ ∀ y, y < x + 1 → ∀ W, gv A (6 * b + y / 12) = some W → y % 12 < W.2.1 → ocR W (sg A a ma (p + y / 12)) i (y % 12) = true) := fun hoc he => ⟨_, k, he, rfl, rfl, go (fun W hW _ => by
          rw [e] at hW
          cases hW
          exact hoc)⟩
        rcases sg_A w ha hma ea (show p + x / 12 < 12 by omega) with ⟨e2, -, kr2⟩ | ⟨r, hr, e2, hl2, o2, pm, -, kr2⟩
        · right
          refine bad (by rw [e2]; rfl) ?_
          simp only [fX13_isLying_b3, dnB_eval, g_289_4 c.1, pl, e12, hc, if_false, dnNz, n12, dv x (by omega), md x (by omega), v_289 c.1, hcb, hct, if_true, nI_add, kr2 h0 _ k c (i + x % 12) (by omega), Bool.false_eq_true, dnP]
        · obtain ⟨k1, k2⟩ := kr2 h0 _ k c
          have o212 := o2.2.1
          have ho : ocR (A.2.2.1 t) (sg A a ma (p + x / 12)) i (x % 12) = (decide (i + x % 12 < (A.2.2.1 r).2.1) && (decide (((A.2.2.1 t).2.2 (x % 12)).1 = 11) || lkC ((A.2.2.1 t).2.2 (x % 12)) ((A.2.2.1 r).2.2 (i + x % 12)))) := by rw [e2]; rfl
          by_cases q2 : i + x % 12 < (A.2.2.1 r).2.1
          · have hc2 : decide (i + x % 12 < (A.2.2.1 r).2.1) = true := decide_eq_true q2
            rw [hc2, Bool.true_and] at ho
            by_cases q3 : ((A.2.2.1 t).2.2 (x % 12)).1 = 11
            · left
              rw [decide_eq_true q3, Bool.true_or] at ho
              have h11 := e11.mpr q3
              refine good ho ?_
              simp only [fX13_isLying_b3, fX13_isLying_j112, dnB_eval, g_289_4 c.1, pl, e12, hc, if_false, dnNz, n12, dv x (by omega), md x (by omega), v_289 c.1, hcb, hct, if_true, nI_add, k2 (i + x % 12) (by omega), hc2, cat, g_289_9 c.1, srt_A c ht (hl []) (show x % 12 < 12 by omega), h11, dnP, nI_1]
            · rw [decide_eq_false q3, Bool.false_or, lkC_comm] at ho
              have cl := cellsLike_A c hr (hl2 []) (show i + x % 12 < 12 by omega) ht (hl []) (show x % 12 < 12 by omega) (o2.2.2 _ (by omega)).1 s12
              have adr : (12 * nI r + nI i) + nI (x % 12) = nI (12 * r + (i + x % 12)) := by rw [at_r, nI_add, Nat.add_assoc]
              rw [← ho] at cl
              cases hoc : ocR (A.2.2.1 t) (sg A a ma (p + x / 12)) i (x % 12)
              · right
                rw [hoc] at cl
                refine bad hoc ?_
                simp only [fX13_isLying_b3, dnB_eval, g_289_4 c.1, pl, e12, hc, if_false, dnNz, n12, dv x (by omega), md x (by omega), v_289 c.1, hcb, hct, if_true, nI_add, k2 (i + x % 12) (by omega), hc2, cat, g_289_9 c.1, srt_A c ht (hl []) (show x % 12 < 12 by omega), e11, q3, k1, at_r, Nat.add_assoc, cl, Bool.false_eq_true, dnP]
              · left
                rw [hoc] at cl
                refine good hoc ?_
                simp only [fX13_isLying_b3, fX13_isLying_j112, dnB_eval, g_289_4 c.1, pl, e12, hc, if_false, dnNz, n12, dv x (by omega), md x (by omega), v_289 c.1, hcb, hct, if_true, nI_add, k2 (i + x % 12) (by omega), hc2, cat, g_289_9 c.1, srt_A c ht (hl []) (show x % 12 < 12 by omega), e11, q3, k1, at_r, Nat.add_assoc, cl, dnP, nI_1]
          · right
            have hc2 : decide (i + x % 12 < (A.2.2.1 r).2.1) = false := decide_eq_false q2
            rw [hc2, Bool.false_and] at ho
            refine bad ho ?_
            simp only [fX13_isLying_b3, dnB_eval, g_289_4 c.1, pl, e12, hc, if_false, dnNz, n12, dv x (by omega), md x (by omega), v_289 c.1, hcb, hct, if_true, nI_add, k2 (i + x % 12) (by omega), hc2, Bool.false_eq_true, dnP]
      · left
        have hct : decide (x % 12 < (A.2.2.1 t).2.1) = false := decide_eq_false q
        refine ⟨nI (x + 1), k, ?_, rfl, rfl, go (fun W hW hl => by rw [e] at hW; cases hW; exact absurd hl q)⟩
        simp only [fX13_isLying_b3, fX13_isLying_j112, dnB_eval, g_289_4 c.1, pl, e12, hc, if_false, dnNz, n12, dv x (by omega), md x (by omega), v_289 c.1, hcb, hct, Bool.false_eq_true, dnP, nI_1]
  · rintro s k ⟨rfl, rfl, hlo⟩
    refine ⟨.inl (), k, by simp only [fX13_isLying_b3, dnB_eval, g_289_4 c.1, pl, e12, Int32.le_refl, if_true, dnP], rfl, .inl ⟨rfl, fun r hr W hW cc hcc => ?_⟩⟩
    have o12 : W.2.1 ≤ 12 := by
      rcases gv_A w hb hmb eb hr with ⟨e, -⟩ | ⟨t, ht, e, -, hl, o, -⟩
      · rw [e] at hW; cases hW
      · rw [e] at hW; cases hW; exact o.2.1
    have := hlo (12 * r + cc) (by omega) W (by rw [show (12 * r + cc) / 12 = r by omega]; exact hW) (by rw [show (12 * r + cc) % 12 = cc by omega]; exact hcc)
    rw [show (12 * r + cc) / 12 = r by omega, show (12 * r + cc) % 12 = cc by omega] at this
    exact this
def lsS (n : Int32) (F : Bool) (v : Int32) (s : Int32 × Int32) : Int32 × Int32 := if F then (s.1 + 1, if s.1 = n then v else s.2) else s
def lsI (n : Int32) (F : Nat → Bool) (p : Nat) (s : Int32 × Int32) : Nat → Int32 × Int32
  | 0 => s
  | i + 1 => lsS n (F i) ((100 * nI p) + nI i) (lsI n F p s i)
def lsO (n : Int32) (F : Nat → Nat → Bool) : Nat → Int32 × Int32
  | 0 => (0, -9)
  | p + 1 => lsI n (F p) p (lsO n F p) 12
theorem step_lies {B : Nat} (x y z : Int32) : Step B B (fX7_findGrid (some 270) x y z) (fX13_liesAnswer (some 289) x y z) := by
  intro A w
  cases hg : inB x 0 3
  · exact step_ro (-1) w (fun h0 h c => by simp only [fX7_findGrid, hg, dnB_eval, c_isGrid, c_isKind, c_isSort, c_isPlain, r_isGrid, r_isKind, r_isSort, r_isPlain, r_in, dnP, Bool.false_eq_true, if_false, if_true]) (fun q0 q r => by simp only [fX13_liesAnswer, hg, dnB_eval, c_isGrid, c_isKind, c_isSort, c_isPlain, r_isGrid, r_isKind, r_isSort, r_isPlain, r_in, dnP, Bool.false_eq_true, if_false, if_true])
  cases hg2 : inB y 0 3
  · exact step_ro (-1) w (fun h0 h c => by simp only [fX7_findGrid, hg, hg2, dnB_eval, c_isGrid, c_isKind, c_isSort, c_isPlain, r_isGrid, r_isKind, r_isSort, r_isPlain, r_in, dnP, Bool.false_eq_true, if_false, if_true]) (fun q0 q r => by simp only [fX13_liesAnswer, hg, hg2, dnB_eval, c_isGrid, c_isKind, c_isSort, c_isPlain, r_isGrid, r_isKind, r_isSort, r_isPlain, r_in, dnP, Bool.false_eq_true, if_false, if_true])
  by_cases z0 : 0 ≤ z
  case neg => exact step_ro (-1) w (fun h0 h c => by simp only [fX7_findGrid, hg, hg2, z0, dnB_eval, c_isGrid, c_isKind, c_isSort, c_isPlain, r_isGrid, r_isKind, r_isSort, r_isPlain, r_in, dnP, Bool.false_eq_true, if_false, if_true]) (fun q0 q r => by simp only [fX13_liesAnswer, hg, hg2, z0, dnB_eval, c_isGrid, c_isKind, c_isSort, c_isPlain, r_isGrid, r_isKind, r_isSort, r_isPlain, r_in, dnP, Bool.false_eq_true, if_false, if_true])
  obtain ⟨a, ha, rfl⟩ := inB_of (n := 3) (by decide) hg
  obtain ⟨b, hb, rfl⟩ := inB_of (n := 3) (by decide) hg2
  have ha : a < 4 := by omega
  have hb : b < 4 := by omega
  by_cases hna : A.1 a < 0
  · exact step_ro (-2) w (fun h0 h c => by simp only [fX7_findGrid, hg, hg2, z0, g_270_0 c.1, sg_0 (st1 c.1), plc_A c ha, hna, dnB_eval, c_isGrid, c_isKind, c_isSort, c_isPlain, r_isGrid, r_isKind, r_isSort, r_isPlain, r_in, dnP, Bool.false_eq_true, if_false, if_true]) (fun q0 k r => by simp only [fX13_liesAnswer, hg, hg2, z0, g_289_4 r.1, plr_A r ha, hna, dnB_eval, c_isGrid, c_isKind, c_isSort, c_isPlain, r_isGrid, r_isKind, r_isSort, r_isPlain, r_in, dnP, Bool.false_eq_true, if_false, if_true])
  by_cases hnb : A.1 b < 0
  · have hn2 : ¬ 0 ≤ A.1 b := Int32.not_le.mpr hnb
    exact step_ro (-2) w (fun h0 h c => by simp only [fX7_findGrid, hg, hg2, z0, g_270_0 c.1, sg_0 (st1 c.1), plc_A c ha, hna, plc_A c hb, hn2, dnB_eval, c_isGrid, c_isKind, c_isSort, c_isPlain, r_isGrid, r_isKind, r_isSort, r_isPlain, r_in, dnP, Bool.false_eq_true, if_false, if_true]) (fun q0 k r => by simp only [fX13_liesAnswer, hg, hg2, z0, g_289_4 r.1, plr_A r ha, hna, plr_A r hb, hn2, dnB_eval, c_isGrid, c_isKind, c_isSort, c_isPlain, r_isGrid, r_isKind, r_isSort, r_isPlain, r_in, dnP, Bool.false_eq_true, if_false, if_true])
  have hn2 : 0 ≤ A.1 b := Int32.not_lt.mp hnb
  obtain ⟨ma, hma, ea⟩ := grid_open w ha hna
  obtain ⟨mb, hmb, eb⟩ := grid_open w hb hnb
  obtain ⟨F, hF⟩ : ∃ F : Nat → Nat → Bool, ∀ p i, F p i = true ↔ Occ A a ma b mb p i := by
    classical
    exact ⟨fun p i => decide (Occ A a ma b mb p i), fun p i => decide_eq_true_iff⟩
  have Fe : ∀ p i (v : Bool), (v = true ↔ Occ A a ma b mb p i) → v = F p i := fun p i v hv => by
    rw [Bool.eq_iff_iff]
    exact hv.trans (hF p i).symm
  -- how many first places
  have ex : ∃ N, N ≤ 7 ∧ (∀ p, p < N → p < 7 ∧ p + mb ≤ ma) ∧ ma < N + mb := by
    by_cases q : mb ≤ ma
    · exact ⟨ma - mb + 1, by omega, fun p hp => by omega, by omega⟩
    · exact ⟨0, by omega, fun p hp => by omega, by omega⟩
  obtain ⟨N, hN, hin, hout⟩ := ex
  have sube : (nI ma - nI mb).toInt = (ma : Int) - mb := by
    rw [Int32.toInt_sub, nI_toInt (by omega), nI_toInt (by omega)]
    exact Int.bmod_eq_of_le (by omega) (by omega)
  have cc : ∀ p, p ≤ 7 → ((nI ma - nI mb < nI p) ↔ ma < p + mb) := fun p hp => by
    rw [Int32.lt_iff_toInt_lt, sube, nI_toInt (by omega)]
    omega
  have cr : ∀ p, p ≤ 7 → ((nI ma < nI p + nI mb) ↔ ma < p + mb) := fun p hp => by
    rw [nI_add]
    exact nI_ltI (by omega) (by omega)
  have cls : ∀ h0 h, CS h0 sp0 [] h A → dnIt 1000 (fX7_findGrid_b57 (some 270) (nI a) (nI b) z) (0, (-9), 0) h = some (lsO z F N, h) := fun h0 h c => by
    have pa : dnAI (some (1 + 1)) 100 (nI a) h = some (nI ma, h) := by rw [plc_A c ha, ea]
    have pb : dnAI (some (1 + 1)) 100 (nI b) h = some (nI mb, h) := by rw [plc_A c hb, eb]
    have inn : ∀ p, p < N → ∀ s : Int32 × Int32, dnIt 1000 (fX7_findGrid_b84 (some 270) (nI a) (nI b) z (nI p)) (s.1, s.2, 0) h = some (lsI z (F p) p s 12, h) := fun p hp s => by
      refine dnIt_run (f := fX7_findGrid_b84 (some 270) (nI a) (nI b) z (nI p)) (q := lsI z (F p) p s 12) (hq := h) 12 1000 (fun i => (((lsI z (F p) p s i).1, (lsI z (F p) p s i).2, nI i), h)) (by decide) ?_ ?_
      · intro i hi
        have hc : ¬ ((12 : Int32) ≤ nI i) := fun hc => by have := (nI_leI (a := 12) (b := i) (by omega) (by omega)).mp hc; omega
        have hp6 := hin p hp
        by_cases p6 : p < 6
        · obtain ⟨v, e1, e2⟩ := occ_c w (p := p) (i := i) ha hma ea hb hmb eb p6 hi c
          rw [Fe p i v e2] at e1
          show _ = some (Sum.inl ((lsS z (F p i) ((100 * nI p) + nI i) (lsI z (F p) p s i)).1, (lsS z (F p i) ((100 * nI p) + nI i) (lsI z (F p) p s i)).2, nI (i + 1)), h)
          simp only [fX7_findGrid_b84, fX7_findGrid_j123, fX7_findGrid_j128, hc, if_false, dnB_eval, v_270 c.1, e1, dnP, nI_1]
          unfold lsS
          cases F p i
          · rfl
          · by_cases q : (lsI z (F p) p s i).1 = z
            · simp [q, dnP]
            · simp [q, dnP]
        · have pe : p = 6 := by omega
          have mbe : mb = 0 := by omega
          subst pe
          have pb0 : dnAI (some (1 + 1)) 100 (nI b) h = some (nI 0, h) := by rw [pb, mbe]
          have oc : fX7_occursAt (some 270) (nI a) (nI b) (nI 6) (nI i) h = some (true, h) := by
            have := dnIt_run (f := fX7_occursAt_b3 (some 270) (nI a) (nI b) (nI 6) (nI i)) (q := .inl ()) (hq := h) 0 1000 (fun _ => ((0 : Int32), h)) (by decide) (fun i hi => by omega) (by simp only [fX7_occursAt_b3, dnB_eval, g_270_0 c.1, sg_0 (st1 c.1), pb0, show nI 0 ≤ (0 : Int32) by decide, if_true, dnP])
            have this : dnIt 1000 (fX7_occursAt_b3 (some 270) (nI a) (nI b) (nI 6) (nI i)) 0 h = some (.inl (), h) := this
            simp only [fX7_occursAt, dnB_eval, this, Sum.elim_inl, dnP]
          have fe : F 6 i = true := (hF 6 i).mpr (fun r hr => by omega)
          show _ = some (Sum.inl ((lsS z (F 6 i) ((100 * nI 6) + nI i) (lsI z (F 6) 6 s i)).1, (lsS z (F 6 i) ((100 * nI 6) + nI i) (lsI z (F 6) 6 s i)).2, nI (i + 1)), h)
          simp only [fX7_findGrid_b84, fX7_findGrid_j123, fX7_findGrid_j128, hc, if_false, dnB_eval, v_270 c.1, oc, if_true, dnP, nI_1]
          unfold lsS
          rw [fe]
          by_cases q : (lsI z (F 6) 6 s i).1 = z
          · simp [q, dnP]
          · simp [q, dnP]
      · simp only [fX7_findGrid_b84, show (12 : Int32) ≤ nI 12 by decide, if_true, dnP]
    refine dnIt_run (f := fX7_findGrid_b57 (some 270) (nI a) (nI b) z) (q := lsO z F N) (hq := h) N 1000 (fun p => (((lsO z F p).1, (lsO z F p).2, nI p), h)) (by omega) ?_ ?_
    · intro p hp
      have q := hin p hp
      have hc : ¬ nI ma - nI mb < nI p := fun hc => by have := (cc p (by omega)).mp hc; omega
      simp only [fX7_findGrid_b57, dnB_eval, g_270_0 c.1, sg_0 (st1 c.1), pa, pb, hc, if_false, inn p hp, dnP, nI_1]
      rfl
    · have hc : nI ma - nI mb < nI N := (cc N hN).mpr hout
      simp only [fX7_findGrid_b57, dnB_eval, g_270_0 c.1, sg_0 (st1 c.1), pa, pb, hc, if_true, dnP]
  have ref : ∀ q0 k, RS q0 [] k A → dnIt 1000 (fX13_liesAnswer_b51 (some 289) (nI a) (nI b) z) (0, (-9), 0) k = some (lsO z F N, k) := fun q0 h c => by
    have pa : dnAI (some 291) 100 (nI a) h = some (nI ma, h) := by rw [plr_A c ha, ea]
    have pb : dnAI (some 291) 100 (nI b) h = some (nI mb, h) := by rw [plr_A c hb, eb]
    have inn : ∀ p, p < N → ∀ s : Int32 × Int32, dnIt 1000 (fX13_liesAnswer_b72 (some 289) (nI a) (nI b) z (nI p)) (s.1, s.2, 0) h = some (lsI z (F p) p s 12, h) := fun p hp s => by
      refine dnIt_run (f := fX13_liesAnswer_b72 (some 289) (nI a) (nI b) z (nI p)) (q := lsI z (F p) p s 12) (hq := h) 12 1000 (fun i => (((lsI z (F p) p s i).1, (lsI z (F p) p s i).2, nI i), h)) (by decide) ?_ ?_
      · intro i hi
        have hc : ¬ ((12 : Int32) ≤ nI i) := fun hc => by have := (nI_leI (a := 12) (b := i) (by omega) (by omega)).mp hc; omega
        have hp6 := hin p hp
        by_cases p6 : p < 6
        · obtain ⟨v, e1, e2⟩ := occ_r w (p := p) (i := i) ha hma ea hb hmb eb p6 hi c
          rw [Fe p i v e2] at e1
          show _ = some (Sum.inl ((lsS z (F p i) ((100 * nI p) + nI i) (lsI z (F p) p s i)).1, (lsS z (F p i) ((100 * nI p) + nI i) (lsI z (F p) p s i)).2, nI (i + 1)), h)
          simp only [fX13_liesAnswer_b72, fX13_liesAnswer_j111, fX13_liesAnswer_j116, hc, if_false, dnB_eval, v_289 c.1, e1, dnP, nI_1]
          unfold lsS
          cases F p i
          · rfl
          · by_cases q : (lsI z (F p) p s i).1 = z
            · simp [q, dnP]
            · simp [q, dnP]
        · have pe : p = 6 := by omega
          have mbe : mb = 0 := by omega
          subst pe
          have pb0 : dnAI (some 291) 100 (nI b) h = some (nI 0, h) := by rw [pb, mbe]
          have oc : fX13_isLying (some 289) (nI a) (nI b) (nI 6) (nI i) h = some (true, h) := by
            have := dnIt_run (f := fX13_isLying_b3 (some 289) (nI a) (nI b) (nI 6) (nI i)) (q := .inl ()) (hq := h) 0 1000 (fun _ => ((0 : Int32), h)) (by decide) (fun i hi => by omega) (by simp only [fX13_isLying_b3, dnB_eval, g_289_4 c.1, pb0, show 12 * nI 0 ≤ (0 : Int32) by decide, if_true, dnP])
            have this : dnIt 1000 (fX13_isLying_b3 (some 289) (nI a) (nI b) (nI 6) (nI i)) 0 h = some (.inl (), h) := this
            simp only [fX13_isLying, dnB_eval, this, Sum.elim_inl, dnP]
          have fe : F 6 i = true := (hF 6 i).mpr (fun r hr => by omega)
          show _ = some (Sum.inl ((lsS z (F 6 i) ((100 * nI 6) + nI i) (lsI z (F 6) 6 s i)).1, (lsS z (F 6 i) ((100 * nI 6) + nI i) (lsI z (F 6) 6 s i)).2, nI (i + 1)), h)
          simp only [fX13_liesAnswer_b72, fX13_liesAnswer_j111, fX13_liesAnswer_j116, hc, if_false, dnB_eval, v_289 c.1, oc, if_true, dnP, nI_1]
          unfold lsS
          rw [fe]
          by_cases q : (lsI z (F 6) 6 s i).1 = z
          · simp [q, dnP]
          · simp [q, dnP]
      · simp only [fX13_liesAnswer_b72, show (12 : Int32) ≤ nI 12 by decide, if_true, dnP]
    refine dnIt_run (f := fX13_liesAnswer_b51 (some 289) (nI a) (nI b) z) (q := lsO z F N) (hq := h) N 1000 (fun p => (((lsO z F p).1, (lsO z F p).2, nI p), h)) (by omega) ?_ ?_
    · intro p hp
      have q := hin p hp
      have hc : ¬ nI ma < nI p + nI mb := fun hc => by have := (cr p (by omega)).mp hc; omega
      simp only [fX13_liesAnswer_b51, dnB_eval, g_289_4 c.1, pa, pb, hc, if_false, inn p hp, dnP, nI_1]
      rfl
    · have hc : nI ma < nI N + nI mb := (cr N hN).mpr hout
      simp only [fX13_liesAnswer_b51, dnB_eval, g_289_4 c.1, pa, pb, hc, if_true, dnP]
  generalize lsO z F N = L at cls ref
  by_cases q9 : L.2 = -9
  · exact step_ro (-9) w (fun h0 h c => by simp only [fX7_findGrid, hg, hg2, z0, g_270_0 c.1, sg_0 (st1 c.1), plc_A c ha, hna, plc_A c hb, hn2, cls h0 h c, q9, dnB_eval, c_isGrid, c_isKind, c_isSort, c_isPlain, r_isGrid, r_isKind, r_isSort, r_isPlain, r_in, dnP, Bool.false_eq_true, if_false, if_true]) (fun q0 k r => by simp only [fX13_liesAnswer, hg, hg2, z0, g_289_4 r.1, plr_A r ha, hna, plr_A r hb, hn2, ref q0 k r, q9, not_true_eq_false, dnB_eval, c_isGrid, c_isKind, c_isSort, c_isPlain, r_isGrid, r_isKind, r_isSort, r_isPlain, r_in, dnP, Bool.false_eq_true, if_false, if_true])
  · refine ⟨L.2, setN A (L.1.toInt64, A.2.2.2.2), w.note, fun h0 h c => ⟨_, ?_, c.told _⟩, fun q0 k r => ?_⟩
    · simp only [fX7_findGrid, hg, hg2, z0, g_270_0 c.1, g_270_1 c.1, sg_0 (st1 c.1), plc_A c ha, hna, plc_A c hb, hn2, cls h0 h c, q9, p_258_0 c.1, dnB_eval, c_isGrid, c_isKind, c_isSort, c_isPlain, r_isGrid, r_isKind, r_isSort, r_isPlain, r_in, dnP, Bool.false_eq_true, if_false, if_true]
    · obtain ⟨t1, r2⟩ := tells_A r L.1.toInt64 L.2
      exact ⟨_, _, by simp only [fX13_liesAnswer, hg, hg2, z0, g_289_4 r.1, plr_A r ha, hna, plr_A r hb, hn2, ref q0 k r, q9, not_false_eq_true, v_289 r.1, t1, dnB_eval, c_isGrid, c_isKind, c_isSort, c_isPlain, r_isGrid, r_isKind, r_isSort, r_isPlain, r_in, dnP, Bool.false_eq_true, if_false, if_true], r2⟩

theorem call_lies {B : Nat} (x y z : Int32) : Call B B (fX12_lies (some 0) x y z) (fX13_lies (some 289) x y z) :=
  callA (Nat.le_refl _) (fun h v h1 s1 s2 e => by simp only [fX12_lies, dnB_eval, g_0_7 s1, v_270 s1, e, v_0 s2, tally_c s2, dnP]) (fun h v h1 s1 s2 e => by simp only [fX13_lies, dnB_eval, v_289 s1, e, v_289 s2, said_r s2, dnP]) (step_lies x y z)
