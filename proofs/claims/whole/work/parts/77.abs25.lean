/-! ABS 25: rows for a new grid; a grid that comes -/
theorem anew_E {h0 h : dnH} {X : List Nat} {A : Ab} {v : Int32} {g : Nat} (c : RS h0 X h A) (hg : g < 4) : ∃ h2, fX13_anew (some 289) (nI g) v h = some ((), h2) ∧ RS h0 X h2 (gridOf A g v sp0) ∧ Eqc (fun x => x ≠ 291 ∧ x ≠ 292) h h2 := by
  have hh := c.1
  have g1 := dnIn_nI (show g < 4 by omega) (by decide)
  have g2 : (nI g).toNatClampNeg = g := nI_clamp (by omega)
  have s1 : Sh (dnSI h 291 g v) := hh
  have KK := it_inv (f := fX13_anew_b9 (some 289) (nI g)) (Q := fun _ k => Eqc (fun x => x ≠ 292) (dnSI h 291 g v) k ∧ (∀ p, p < 6 → k.2.1 292 (6 * g + p) = -1) ∧ ∀ j, j < 24 → j / 6 ≠ g → k.2.1 292 j = rc (A.2.1 j)) (fun i s k => s = nI i ∧ Eqc (fun x => x ≠ 292) (dnSI h 291 g v) k ∧ (∀ p, p < i → k.2.1 292 (6 * g + p) = -1) ∧ ∀ j, j < 24 → j / 6 ≠ g → k.2.1 292 j = rc (A.2.1 j)) 6 1000 0 (by decide) (by decide) ?_ ?_ (nI 0) (dnSI h 291 g v) ⟨rfl, Eqc.rf, fun p hp => by omega, fun j hj _ => c.hd hj⟩
  · obtain ⟨_, h2, e, f1, f2, f3⟩ := KK
    rw [nI_0] at e
    refine ⟨h2, ?_, ?_, (eqc_SI (fun hc => hc.1 rfl)).tr (f1.im (fun x hx => hx.2))⟩
    · simp only [fX13_anew, dnB_eval, g_289_4 hh, t_291 hh, g1, g2, if_true, e, dnP]
    · refine c.mh (M2 := fun j => if j = g then v else A.1 j) (H2 := fun k => if k / 6 = g then sp0 (k % 6) else A.2.1 k) ((eqc_SI (fun hc => hc.1 rfl)).tr (f1.im (fun x hx => hx.2))) (fun j hj => ?_) (fun k hk => ?_) (gridOf_live (g := g) (m := v) (fun p hp n hn e => absurd (show nI n < 0 by rw [← e]; exact (by decide : (-14 : Int32) < 0)) (nI_pos (by omega))))
      · rw [(f1.2.2 291 (by decide)).1, ← c.pl hj]
        show dnUp h.2.1 291 g v 291 j = _
        unfold dnUp
        simp
      · by_cases q : k / 6 = g
        · rw [if_pos q]
          have := f2 (k % 6) (Nat.mod_lt _ (by decide))
          rw [show 6 * g + k % 6 = k by omega] at this
          exact this
        · rw [if_neg q]
          exact f3 k hk q
  · rintro i s k hi ⟨rfl, k1, k2, k4⟩
    left
    have hk : Sh k := k1.sh s1
    have hc : ¬ ((6 : Int32) ≤ nI i) := fun hc => by have := (nI_leI (a := 6) (b := i) (by omega) (by omega)).mp hc; omega
    refine ⟨nI (i + 1), dnSI k 292 (6 * g + i) (-1), ?_, rfl, k1.tr (eqc_SI (fun hc => hc rfl)), fun p hp => ?_, fun j hj hjg => ?_⟩
    · simp only [fX13_anew_b9, hc, if_false, dnB_eval, v_289 hk, holdsNow_r hk hg hi, dnP, nI_1]
    · by_cases q : p = i
      · subst q
        simp [dnSI, dnUp]
      · have b1 := k2 p (by omega)
        simp [dnSI, dnUp, q, b1]
    · have n2 : ¬ j = 6 * g + i := by omega
      have := k4 j hj hjg
      simp [dnSI, dnUp, n2, this]
  · rintro s k ⟨rfl, k1, k2, k4⟩
    exact ⟨(), k, by simp only [fX13_anew_b9, show (6 : Int32) ≤ nI 6 by decide, if_true, dnP], k1, k2, k4⟩
def liveB (X : List Nat) (A : Ab) (n : Nat) : Bool := X.contains n || (List.range 24).any (fun k => A.2.1 k == nI n)
theorem liveB_iff {X : List Nat} {A : Ab} {n : Nat} : liveB X A n = true ↔ live X A n := by
  unfold liveB live
  rw [Bool.or_eq_true, List.any_eq_true]
  constructor
  · rintro (h | ⟨k, hk, e⟩)
    · exact .inl (by simpa using h)
    · exact .inr ⟨k, List.mem_range.mp hk, by simpa using e⟩
  · rintro (h | ⟨k, hk, e⟩)
    · exact .inl (by simpa using h)
    · exact .inr ⟨k, List.mem_range.mpr hk, by simpa using e⟩
/-- the number that the next new row gets -/
def frN (X : List Nat) (A : Ab) : Nat := ((List.range 31).find? (fun n => !liveB X A n)).getD 0
theorem frN_is {X : List Nat} {A : Ab} (hX : X.length ≤ 6) : isFr X A (frN X A) := by
  obtain ⟨n, h1, h2, h3⟩ := exFr A hX
  have e : (List.range 31).find? (fun n => !liveB X A n) = some n := by
    rw [List.find?_range_eq_some]
    refine ⟨?_, List.mem_range.mpr h1, fun j hj => ?_⟩
    · cases q : liveB X A n
      · rfl
      · exact absurd (liveB_iff.mp q) h2
    · rw [liveB_iff.mpr (h3 j hj)]
      rfl
  unfold frN
  rw [e]
  exact ⟨h1, h2, h3⟩
def upS (S : Nat → Int32) (p : Nat) (v : Int32) : Nat → Int32 := fun q => if q = p then v else S q
theorem spX_up {S : Nat → Int32} {X : List Nat} {p x : Nat} (h : spX S X) (hp : p < 6) (hS : S p = -14) (hx : x < 31) : spX (upS S p (nI x)) (x :: X) := by
  intro n hn
  constructor
  · intro hm
    rcases List.mem_cons.mp hm with e | hm
    · exact ⟨p, hp, by unfold upS; rw [if_pos rfl, e]⟩
    · obtain ⟨q, hq, e⟩ := (h n hn).mp hm
      have hne : ¬ q = p := fun ee => by
        rw [ee, hS] at e
        exact absurd (show nI n < 0 by rw [← e]; decide) (nI_pos (by omega))
      exact ⟨q, hq, by unfold upS; rw [if_neg hne]; exact e⟩
  · rintro ⟨q, hq, e⟩
    by_cases c : q = p
    · unfold upS at e
      rw [if_pos c] at e
      exact List.mem_cons.mpr (.inl ((nI_eq (by omega) (by omega)).mp e).symm)
    · unfold upS at e
      rw [if_neg c] at e
      exact List.mem_cons.mpr (.inr ((h n hn).mpr ⟨q, hq, e⟩))
theorem newGrid_A {h0 h : dnH} {S : Nat → Int32} {X : List Nat} {A : Ab} {x p kd ln : Nat} (c : CS h0 S X h A) (hX : spX S X) (hf : isFr X A x) (hp : p < 6) (hkd : kd < 12) : ∃ h2, fX9_rowOfNewGrid (some 1) (nI p) (nI kd) (nI ln) h = some (some (5 + 4 * x), h2) ∧ CS h0 (upS S p (nI x)) (x :: X) h2 (setR A x (newR kd ln)) := by
  obtain ⟨h1, a1, c1⟩ := freshRow_A (kd := kd) (ln := ln) c hX hf hkd
  have hx := hf.1
  have e1 := dnIn_nI (show 24 + p < 30 by omega) (by decide)
  have e2 : (nI (24 + p)).toNatClampNeg = 24 + p := nI_clamp (by omega)
  have a4 : (4 : Int32) * 6 + nI p = nI (24 + p) := by rw [show (4 : Int32) * 6 = nI 24 from rfl, nI_add]
  have st := st_2 (st1 c1.1) (nI (24 + p)) (nI x)
  have c2 := c1.spare (p := p) (v := nI x)
  refine ⟨_, ?_, c2⟩
  simp only [fX9_rowOfNewGrid, fX9_place, dnB_eval, sv (st1 c.1), a1, sv (st1 c1.1), sg_1 (st1 c1.1), rg_i (row1 c1.1 hx), c1.2.2.1 x hx, a4, st, e1, e2, if_true, dnP]
theorem comes_A {h0 h : dnH} {X : List Nat} {A : Ab} {g m : Nat} {T : Nat → Int32} (c : RS h0 X h A) (hg : g < 4) (hm : m ≤ 6) (hT : ∀ p, p < m → h.2.1 302 p = rc (T p)) (hE : ∀ p, p < 6 → m ≤ p → T p = -14) (hX : ∀ p, p < 6 → ∀ n, n < 31 → T p = nI n → n ∈ X) : ∃ h2, fX13_comes (some 289) (nI g) (nI m) h = some (nI m, h2) ∧ RS h0 X h2 (gridOf A g (nI m) T) := by
  obtain ⟨h1, a1, r1, e1⟩ := anew_E (v := nI m) c hg
  have hd : ∀ j k, gridOf A g (nI m) (fun p => if p < j then T p else -14) = k → True := fun _ _ _ => trivial
  have up : ∀ j, j < 6 → setH (gridOf A g (nI m) (fun p => if p < j then T p else -14)) (6 * g + j) (T j) = gridOf A g (nI m) (fun p => if p < j + 1 then T p else -14) := fun j hj => by
    unfold setH gridOf
    have : (fun k => if k = 6 * g + j then T j else (if k / 6 = g then (if k % 6 < j then T (k % 6) else -14) else A.2.1 k)) = (fun k => if k / 6 = g then (if k % 6 < j + 1 then T (k % 6) else -14) else A.2.1 k) := by
      funext k
      by_cases q : k = 6 * g + j
      · rw [if_pos q, if_pos (by omega), if_pos (by omega), show k % 6 = j by omega]
      · rw [if_neg q]
        by_cases q2 : k / 6 = g
        · rw [if_pos q2, if_pos q2]
          by_cases q3 : k % 6 < j
          · rw [if_pos q3, if_pos (by omega)]
          · rw [if_neg q3, if_neg (by omega)]
        · rw [if_neg q2, if_neg q2]
    dsimp only
    rw [this]
  have T0 : gridOf A g (nI m) sp0 = gridOf A g (nI m) (fun p => if p < 0 then T p else -14) := by
    have : sp0 = (fun p => if p < 0 then T p else -14) := by
      funext p
      rw [if_neg (by omega)]
      rfl
    rw [this]
  have Tm : gridOf A g (nI m) (fun p => if p < m then T p else -14) = gridOf A g (nI m) T := by
    unfold gridOf
    have : (fun k => if k / 6 = g then (if k % 6 < m then T (k % 6) else -14) else A.2.1 k) = (fun k => if k / 6 = g then T (k % 6) else A.2.1 k) := by
      funext k
      split
      · split
        · rfl
        · exact (hE _ (Nat.mod_lt _ (by decide)) (by omega)).symm
      · rfl
    dsimp only
    rw [this]
  rw [T0] at r1
  have KK := it_inv (f := fX13_comes_b8 (some 289) (nI g) (nI m)) (Q := fun _ k => RS h0 X k (gridOf A g (nI m) T)) (fun j s k => s = nI j ∧ RS h0 X k (gridOf A g (nI m) (fun p => if p < j then T p else -14)) ∧ k.2.1 302 = h.2.1 302) m 1000 0 (by omega) (by omega) ?_ ?_ (nI 0) h1 ⟨rfl, r1, (e1.2.2 302 (by decide)).1⟩
  · obtain ⟨_, h2, b1, r2⟩ := KK
    rw [nI_0] at b1
    exact ⟨h2, by simp only [fX13_comes, dnB_eval, v_289 c.1, a1, b1, dnP], r2⟩
  · rintro j s k hj ⟨rfl, rk, hk⟩
    left
    have hc : ¬ (nI m ≤ nI j) := fun hc => by have := (nI_leI (a := m) (b := j) (by omega) (by omega)).mp hc; omega
    have i1 := dnIn_nI (show j < 6 by omega) (by decide)
    have i2 : (nI j).toNatClampNeg = j := nI_clamp (by omega)
    have hv : k.2.1 302 j = rc (T j) := by rw [hk]; exact hT j hj
    obtain ⟨d1, r3⟩ := holdsNow_A (v := T j) (p := j) rk hg (by omega) (fun n hn e => .inl (hX j (by omega) n hn e))
    rw [up j (by omega)] at r3
    refine ⟨nI (j + 1), _, ?_, rfl, r3, hk⟩
    simp only [fX13_comes_b8, hc, if_false, dnB_eval, g_289_18 rk.1, a_302 rk.1, i1, i2, if_true, hv, v_289 rk.1, d1, dnP, nI_1]
  · rintro s k ⟨rfl, rk, hk⟩
    rw [Tm] at rk
    exact ⟨(), k, by simp only [fX13_comes_b8, Int32.le_refl, if_true, dnP], rk⟩
/-- how many places, at most, and how rows of a new grid count -/
theorem made_A {h0 h : dnH} {X : List Nat} {A : Ab} {p : Nat} {v : Int32} (c : RS h0 X h A) (hp : p < 6) : dnTI (some 302) 100 (nI p) v h = some ((), dnSI h 302 p v) ∧ RS h0 X (dnSI h 302 p v) A := by
  refine ⟨?_, c.fr (eqc_SI (by unfold Pn; decide)) ⟨rfl, rfl, rfl, rfl, rfl⟩⟩
  rw [t_302 c.1, dnIn_nI hp (by decide), nI_clamp (show p < 2 ^ 31 by omega)]
  rfl
/-- the row at a place of a grid, as a value -/
def gv (A : Ab) (k : Nat) : Option Rw := (gr A k).map A.2.2.1
theorem gv_A {B : Nat} {X : List Nat} {A : Ab} (w : Wf B X A) {G p m : Nat} (hG : G < 4) (hm : m ≤ 6) (e1 : A.1 G = nI m) (hp : p < m) :
    (gv A (6 * G + p) = none ∧ (∀ h0 S Y h, CS h0 S Y h A → fX9_rowAt (some 1) (nI G) (nI p) h = some (none, h)) ∧ ∀ q0 Y k, RS q0 Y k A → fX13_isRow (some 289) (nI G) (nI p) k = some (false, k)) ∨
    (∃ r, r < 31 ∧ gv A (6 * G + p) = some (A.2.2.1 r) ∧ A.2.1 (6 * G + p) = nI r ∧ (∀ Y, live Y A r) ∧ rwOk B (A.2.2.1 r) ∧ (∀ h0 S Y h, CS h0 S Y h A → fX9_rowAt (some 1) (nI G) (nI p) h = some (some (5 + 4 * r), h)) ∧ ∀ q0 Y k, RS q0 Y k A → fX13_isRow (some 289) (nI G) (nI p) k = some (true, k) ∧ fX13_held (some 289) (nI G) (nI p) k = some (nI r, k)) := by
  rcases gr_A w hG hm e1 hp with ⟨e, kc, kr⟩ | ⟨r, hr, e, e3, hl, o, kc, kr⟩
  · exact .inl ⟨by unfold gv; rw [e]; rfl, kc, kr⟩
  · exact .inr ⟨r, hr, by unfold gv; rw [e]; rfl, e3, hl, o, kc, kr⟩
/-- the reference's hasCell at a place of a grid -/
theorem hasCell_A {B : Nat} {X : List Nat} {A : Ab} (w : Wf B X A) {G p m : Nat} (hG : G < 4) (hm : m ≤ 6) (e1 : A.1 G = nI m) (hp : p < m) (i : Int32) : ∀ q0 Y k, RS q0 Y k A → fX13_hasCell (some 289) (nI G) (nI p) i k = some ((match gv A (6 * G + p) with | none => false | some R => decide (0 ≤ i.toInt ∧ i.toInt < (R.2.1 : Int))), k) := fun q0 Y k rs => by
  have pl : dnAI (some 291) 100 (nI G) k = some (nI m, k) := by rw [plr_A rs hG, e1]
  have hin : inB (nI p) 0 (nI m - 1) = true := by
    rw [inB_len (by omega), nI_toInt (by omega)]
    exact decide_eq_true (by omega)
  rcases gv_A w hG hm e1 hp with ⟨e, kc, kr⟩ | ⟨r, hr, e, e3, hl, o, kc, kr⟩
  · rw [e]
    simp only [fX13_hasCell, dnB_eval, g_289_4 rs.1, pl, r_in, hin, dnP, if_true, v_289 rs.1, kr q0 Y k rs, Bool.false_eq_true, if_false]
  · rw [e]
    have o12 := o.2.1
    simp only [fX13_hasCell, dnB_eval, g_289_4 rs.1, pl, r_in, hin, dnP, if_true, v_289 rs.1, (kr q0 Y k rs).1, (kr q0 Y k rs).2, g_289_7 rs.1, len_A rs hr (hl Y), inB_len (show (A.2.2.1 r).2.1 ≤ 72 by omega)]
    generalize decide (0 ≤ i.toInt ∧ i.toInt < ((A.2.2.1 r).2.1 : Int)) = b
    cases b <;> rfl
theorem hasCell_N {B : Nat} {X : List Nat} {A : Ab} (w : Wf B X A) {G p m j : Nat} (hG : G < 4) (hm : m ≤ 6) (e1 : A.1 G = nI m) (hp : p < m) (hj : j < 2 ^ 31) : ∀ q0 Y k, RS q0 Y k A → fX13_hasCell (some 289) (nI G) (nI p) (nI j) k = some ((match gv A (6 * G + p) with | none => false | some R => decide (j < R.2.1)), k) := fun q0 Y k rs => by
  rw [hasCell_A w hG hm e1 hp _ q0 Y k rs, nI_toInt hj]
  cases gv A (6 * G + p) with
  | none => rfl
  | some R =>
    have : decide (0 ≤ (j : Int) ∧ (j : Int) < (R.2.1 : Int)) = decide (j < R.2.1) := by
      rw [decide_eq_decide]
      omega
    simp only [this]
