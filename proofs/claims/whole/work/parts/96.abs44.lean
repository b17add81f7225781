/-! ABS 44: trail, together -/
def emp (o : Option Rw) : Bool := match o with | none => false | some R => decide (R.2.1 = 0)
theorem he_turn {B : Nat} {A : Ab} (w : Wf B [] A) {G m p : Nat} (hG : G < 4) (hm : m ≤ 6) (e1 : A.1 G = nI m) (hp : p < m) {h0 h : dnH} (c : CS h0 sp0 [] h A) : fX7_hasEmptyRow_b2 (some 270) (nI G) (nI p) h = if emp (gv A (6 * G + p)) = true then some (.inr (.inr true), h) else some (.inl (nI (p + 1)), h) := by
  have hc : ¬ (nI m ≤ nI p) := fun hc => by have := (nI_leI (a := m) (b := p) (by omega) (by omega)).mp hc; omega
  have pl := plc_A c hG
  rw [e1] at pl
  rcases gv_A w hG hm e1 hp with ⟨e, kc, -⟩ | ⟨r, hr, e, -, hl, o, kc, -⟩
  · rw [e]
    simp only [fX7_hasEmptyRow_b2, fX7_hasEmptyRow_j38, dnB_eval, g_270_0 c.1, sg_0 (st1 c.1), pl, hc, if_false, sv (st1 c.1), kc h0 _ _ h c, Option.elim, emp, Bool.false_eq_true, dnP, nI_1]
  · rw [e]
    have N1 := o.2.1
    have z : (nI (A.2.2.1 r).2.1 = 0) ↔ (A.2.2.1 r).2.1 = 0 := nI_eq (b := 0) (by omega) (by decide)
    simp only [fX7_hasEmptyRow_b2, fX7_hasEmptyRow_j38, dnB_eval, g_270_0 c.1, sg_0 (st1 c.1), pl, hc, if_false, sv (st1 c.1), kc h0 _ _ h c, Option.elim, emp, rg_i (row1 c.1 hr), (c.row hr (hl _)).2.1, z, decide_eq_true_eq, dnP, nI_1]
    by_cases q : (A.2.2.1 r).2.1 = 0
    · rw [if_neg (not_not_intro q), if_pos q]
      rfl
    · rw [if_pos q, if_neg q]
      rfl
theorem he_no {B : Nat} {A : Ab} (w : Wf B [] A) {G m : Nat} (hG : G < 4) (hm : m ≤ 6) (e1 : A.1 G = nI m) (hf : ∀ p, p < m → emp (gv A (6 * G + p)) = false) {h0 h : dnH} (c : CS h0 sp0 [] h A) : fX7_hasEmptyRow (some 270) (nI G) h = some (false, h) := by
  have pl := plc_A c hG
  rw [e1] at pl
  have key := dnIt_run (f := fX7_hasEmptyRow_b2 (some 270) (nI G)) (q := .inl ()) (hq := h) m 1000 (fun i => (nI i, h)) (by omega) (fun i hi => by rw [he_turn w hG hm e1 hi c, hf i hi]; rfl) (by simp only [fX7_hasEmptyRow_b2, dnB_eval, g_270_0 c.1, sg_0 (st1 c.1), pl, Int32.le_refl, if_true, dnP])
  have key : dnIt 1000 (fX7_hasEmptyRow_b2 (some 270) (nI G)) 0 h = some (.inl (), h) := key
  simp only [fX7_hasEmptyRow, dnB_eval, key, Sum.elim_inl, dnP]
theorem he_yes {B : Nat} {A : Ab} (w : Wf B [] A) {G m I : Nat} (hG : G < 4) (hm : m ≤ 6) (e1 : A.1 G = nI m) (hI : I < m) (hf : emp (gv A (6 * G + I)) = true) (hlo : ∀ p, p < I → emp (gv A (6 * G + p)) = false) {h0 h : dnH} (c : CS h0 sp0 [] h A) : fX7_hasEmptyRow (some 270) (nI G) h = some (true, h) := by
  have key := dnIt_run (f := fX7_hasEmptyRow_b2 (some 270) (nI G)) (q := .inr true) (hq := h) I 1000 (fun i => (nI i, h)) (by omega) (fun i hi => by rw [he_turn w hG hm e1 (by omega) c, hlo i hi]; rfl) (by rw [he_turn w hG hm e1 hI c, hf]; rfl)
  have key : dnIt 1000 (fX7_hasEmptyRow_b2 (some 270) (nI G)) 0 h = some (.inr true, h) := key
  simp only [fX7_hasEmptyRow, dnB_eval, key, Sum.elim_inr, dnP]
def stD (m t : Nat) : Int32 := if t = m then -1 else nI (m - 1 - t)
theorem stD_0 {m : Nat} : nI m - 1 = stD m 0 := by
  unfold stD
  by_cases q : m = 0
  · rw [if_pos q.symm, q]; rfl
  · rw [if_neg (fun e => q e.symm), nI_sub1 (by omega), Nat.sub_zero]
theorem stD_s {m t : Nat} (h : t < m) : nI (m - 1 - t) + (-1) = stD m (t + 1) := by
  unfold stD
  by_cases q : t + 1 = m
  · rw [if_pos q, show m - 1 - t = 0 by omega]; rfl
  · rw [if_neg q, nI_dec (by omega), show m - 1 - t - 1 = m - 1 - (t + 1) by omega]
theorem loop_c {B : Nat} {A : Ab} (w : Wf B [] A) {G m : Nat} (hG : G < 4) (hm : m ≤ 6) (e1 : A.1 G = nI m) (hrd : ∀ p, p < m → unr 4 (gv A (6 * G + p)) = false) {h0 h : dnH} (c : CS h0 sp0 [] h A) : ∃ h2, dnIt 1000 (fX7_bestTrail_b61 (some 270) (nI G)) (0, 0, nI m - 1) h = some ((nI (tr A G m m).1, nI (tr A G m m).2.1), h2) ∧ CS h0 sp0 [] h2 A ∧ Pv h2 271 (tr A G m m).2.1 (tr A G m m).2.2 := by
  have KK := it_inv (f := fX7_bestTrail_b61 (some 270) (nI G)) (Q := fun s k => s = (nI (tr A G m m).1, nI (tr A G m m).2.1) ∧ CS h0 sp0 [] k A ∧ Pv k 271 (tr A G m m).2.1 (tr A G m m).2.2) (fun t s k => s = (nI (tr A G m t).1, nI (tr A G m t).2.1, stD m t) ∧ CS h0 sp0 [] k A ∧ Pv k 271 (tr A G m t).2.1 (tr A G m t).2.2) m 1000 0 (by omega) (by omega) ?_ ?_ (0, 0, nI m - 1) h ⟨by rw [stD_0]; rfl, c, fun y hy => by have hy : y < 0 := hy; omega⟩
  · obtain ⟨_, h2, b1, rfl, c2, p2⟩ := KK
    exact ⟨h2, b1, c2, p2⟩
  · rintro t s k ht ⟨rfl, ck, pk⟩
    left
    have es : stD m t = nI (m - 1 - t) := if_neg (by omega)
    have ng : ¬ nI (m - 1 - t) < 0 := nI_pos (by omega)
    obtain ⟨k1, k2, k3, k4⟩ := tr_ok w hG hm e1 hrd t (by omega)
    rw [es]
    rcases gv_A w hG hm e1 (show m - 1 - t < m by omega) with ⟨e, kc, -⟩ | ⟨r, hr, e, -, hl, o, kc, -⟩
    · refine ⟨_, k, ?_, rfl, ck, by rw [tr_n e]; exact pk⟩
      rw [tr_n e]
      simp only [fX7_bestTrail_b61, fX7_bestTrail_j110, ng, if_false, dnB_eval, g_270_0 ck.1, sv (st1 ck.1), kc h0 _ _ k ck, Option.elim, dnP, stD_s ht]
    · obtain ⟨h2, x1, x2, x3⟩ := extend_A (f := decide ((tr A G m t).1 = 0)) ck hr (hl _) o (show (tr A G m t).1 ≤ 6 by omega) k2 k3 k4 pk
      refine ⟨_, h2, ?_, rfl, x2, by rw [tr_s e]; exact x3⟩
      rw [tr_s e]
      have le0 : (nI (tr A G m t).1 ≤ 0) ↔ (tr A G m t).1 = 0 := by rw [show (0 : Int32) = nI 0 from rfl, nI_leI (by omega) (by decide)]; omega
      have rr := (x2.row hr (hl _)).2.1
      by_cases q : (tr A G m t).1 = 0
      · rw [decide_eq_true q] at x1
        have x1 : fX7_extendPaths (some 270) (some (5 + 4 * r)) false (nI (tr A G m t).2.1) k = some ((), h2) := x1
        have z := le0.mpr q
        simp only [fX7_bestTrail_b61, fX7_bestTrail_j95, fX7_bestTrail_j110, ng, if_false, dnB_eval, g_270_0 ck.1, sv (st1 ck.1), kc h0 _ _ k ck, Option.elim, z, if_true, v_270 ck.1, x1, rg_i (row1 x2.1 hr), rr, dnP, stD_s ht, nI_1]
      · rw [decide_eq_false q] at x1
        have x1 : fX7_extendPaths (some 270) (some (5 + 4 * r)) true (nI (tr A G m t).2.1) k = some ((), h2) := x1
        have z := mt le0.mp q
        simp only [fX7_bestTrail_b61, fX7_bestTrail_j95, fX7_bestTrail_j110, ng, if_false, dnB_eval, g_270_0 ck.1, sv (st1 ck.1), kc h0 _ _ k ck, Option.elim, z, v_270 ck.1, x1, rg_i (row1 x2.1 hr), rr, dnP, stD_s ht, nI_1]
  · rintro s k ⟨rfl, ck, pk⟩
    have es : stD m m = -1 := if_pos rfl
    exact ⟨_, k, by simp only [fX7_bestTrail_b61, es, show (-1 : Int32) < 0 by decide, if_true, dnP], rfl, ck, pk⟩
theorem loop_r {B : Nat} {A : Ab} (w : Wf B [] A) {G m : Nat} (hG : G < 4) (hm : m ≤ 6) (e1 : A.1 G = nI m) (hrd : ∀ p, p < m → unr 4 (gv A (6 * G + p)) = false) {q0 h : dnH} (c : RS q0 [] h A) : ∃ h2, dnIt 1000 (fX13_trailAnswer_b46 (some 289) (nI G)) (0, nI m - 1) h = some (nI (tr A G m m).1, h2) ∧ RS q0 [] h2 A ∧ ((tr A G m m).1 ≠ 0 → Rv h2 (tr A G m m).2.2) := by
  have KK := it_inv (f := fX13_trailAnswer_b46 (some 289) (nI G)) (Q := fun s k => s = nI (tr A G m m).1 ∧ RS q0 [] k A ∧ ((tr A G m m).1 ≠ 0 → Rv k (tr A G m m).2.2)) (fun t s k => s = (nI (tr A G m t).1, stD m t) ∧ RS q0 [] k A ∧ ((tr A G m t).1 ≠ 0 → Rv k (tr A G m t).2.2)) m 1000 0 (by omega) (by omega) ?_ ?_ (0, nI m - 1) h ⟨by rw [stD_0]; rfl, c, fun hq => absurd rfl hq⟩
  · obtain ⟨_, h2, b1, rfl, c2, p2⟩ := KK
    exact ⟨h2, b1, c2, p2⟩
  · rintro t s k ht ⟨rfl, rk, pk⟩
    left
    have es : stD m t = nI (m - 1 - t) := if_neg (by omega)
    have ng : ¬ nI (m - 1 - t) < 0 := nI_pos (by omega)
    obtain ⟨k1, k2, k3, k4⟩ := tr_ok w hG hm e1 hrd t (by omega)
    rw [es]
    rcases gv_A w hG hm e1 (show m - 1 - t < m by omega) with ⟨e, -, kr⟩ | ⟨r, hr, e, -, hl, o, -, kr⟩
    · refine ⟨_, k, ?_, rfl, rk, by rw [tr_n e]; exact pk⟩
      rw [tr_n e]
      simp only [fX13_trailAnswer_b46, fX13_trailAnswer_j81, ng, if_false, dnB_eval, v_289 rk.1, kr q0 _ k rk, Bool.false_eq_true, dnP, stD_s ht]
    · obtain ⟨h2, x1, x2, x3⟩ := trails_A (f := decide ((tr A G m t).1 = 0)) rk hr (hl _) o.2.1 (fun y hy => k3 y (by omega)) (fun hf => pk (of_decide_eq_false hf))
      refine ⟨_, h2, ?_, rfl, x2, fun _ => by rw [tr_s e]; exact x3⟩
      rw [tr_s e]
      have e0 : (nI (tr A G m t).1 = 0) ↔ (tr A G m t).1 = 0 := nI_eq (b := 0) (by omega) (by decide)
      obtain ⟨r1, r2⟩ := kr q0 _ k rk
      by_cases q : (tr A G m t).1 = 0
      · rw [decide_eq_true q] at x1
        have z := not_not_intro (e0.mpr q)
        simp only [fX13_trailAnswer_b46, fX13_trailAnswer_j75, fX13_trailAnswer_j81, ng, if_false, dnB_eval, v_289 rk.1, r1, r2, if_true, z, x1, dnP, stD_s ht, nI_1]
      · rw [decide_eq_false q] at x1
        have z := mt e0.mp q
        simp only [fX13_trailAnswer_b46, fX13_trailAnswer_j75, fX13_trailAnswer_j81, ng, if_false, dnB_eval, v_289 rk.1, r1, r2, if_true, z, not_false_eq_true, x1, dnP, stD_s ht, nI_1]
  · rintro s k ⟨rfl, rk, pk⟩
    have es : stD m m = -1 := if_pos rfl
    exact ⟨_, k, by simp only [fX13_trailAnswer_b46, es, show (-1 : Int32) < 0 by decide, if_true, dnP], rfl, rk, pk⟩

theorem rep_c {t wd : Nat} {h0 h : dnH} {A : Ab} {W : Nat → Option Int64} {v0 : Int64} (c : CS h0 sp0 [] h A) (ht : t ≤ 6) (hw : wd ≤ 12) (hw0 : wd ≠ 0) (hW : ∀ y, wd ≤ y → W y = none) (hb : ∀ y, bdO t (W y)) (hp : Pv h 271 wd W) (hv : W 0 = some v0) : ∃ h2 X v, fX7_reportTrail (some 270) (nI wd) h = some ((), h2) ∧ CS h0 sp0 [] h2 (setN A (v, nI X, A.2.2.2.2.2)) ∧ Best W X v := by
  have c1 := c.told 0
  have c2 := c1.first (-9)
  have c2 : CS h0 sp0 [] (dnSI (dnSL h 258 0 0) 258 1 (-9)) (setN A (0, -9, A.2.2.2.2.2)) := c2
  have p2 : Pv (dnSI (dnSL h 258 0 0) 258 1 (-9)) 271 wd W := fun y hy => by rw [← hp y hy]; simp [dnSI, dnSL, dnSD, dnUp]
  have KK := it_inv (f := fX7_reportTrail_b19 (some 270) (nI wd)) (Q := fun _ k => ∃ X v, CS h0 sp0 [] k (setN A (v, nI X, A.2.2.2.2.2)) ∧ Best W X v) (fun x s k => s = nI x ∧ Pv k 271 wd W ∧ ((x = 0 ∧ CS h0 sp0 [] k (setN A (0, -9, A.2.2.2.2.2))) ∨ ∃ X v, X < x ∧ W X = some v ∧ (∀ z u, z < x → W z = some u → u ≤ v ∧ (z < X → u < v)) ∧ CS h0 sp0 [] k (setN A (v, nI X, A.2.2.2.2.2)))) wd 1000 0 (by omega) (by omega) ?_ ?_ (nI 0) _ ⟨rfl, p2, .inl ⟨rfl, c2⟩⟩
  · obtain ⟨_, h2, b1, X, v, c3, e3⟩ := KK
    rw [nI_0] at b1
    refine ⟨h2, X, v, ?_, c3, e3⟩
    simp only [fX7_reportTrail, dnB_eval, g_270_1 c.1, p_258_0 c.1, g_270_1 c1.1, p_258_1 c1.1, b1, dnP]
  · rintro x s k hx ⟨rfl, pk, inv⟩
    left
    have hc : ¬ (nI wd ≤ nI x) := fun hc => by have := (nI_leI (a := wd) (b := x) (by omega) (by omega)).mp hc; omega
    have i1 := dnIn_nI (show x < 12 by omega) (by decide)
    have i2 : (nI x).toNatClampNeg = x := nI_clamp (by omega)
    have px := pk x hx
    have put : ∀ (N : Int64 × Int32) (u : Int64), CS h0 sp0 [] k (setN A (N.1, N.2, A.2.2.2.2.2)) → W x = some u → fX7_reportTrail_j53 (some 270) (nI wd) (nI x) k = some (.inl (nI (x + 1)), dnSI (dnSL k 258 0 u) 258 1 (nI x)) ∧ CS h0 sp0 [] (dnSI (dnSL k 258 0 u) 258 1 (nI x)) (setN A (u, nI x, A.2.2.2.2.2)) ∧ Pv (dnSI (dnSL k 258 0 u) 258 1 (nI x)) 271 wd W := fun N u ck hu => by
      have d1 := ck.told u
      have d2 := d1.first (nI x)
      rw [hu] at px
      have px : k.2.2.1 271 x = u := px
      refine ⟨?_, d2, fun y hy => by rw [← pk y hy]; simp [dnSI, dnSL, dnSD, dnUp]⟩
      simp only [fX7_reportTrail_j53, fX7_reportTrail_j74, dnB_eval, g_270_1 ck.1, g_270_2 ck.1, a_271 ck.1, i1, i2, if_true, px, p_258_0 ck.1, g_270_1 d1.1, p_258_1 d1.1, dnP, nI_1]
    rcases inv with ⟨x0, ck⟩ | ⟨X, v, hX, hXv, hall, ck⟩
    · have n1 : k.2.1 258 1 = -9 := ck.2.2.2.2.2.2.1
      have hu : W x = some v0 := by rw [x0]; exact hv
      obtain ⟨u1, u2, u3⟩ := put (0, -9) v0 ck hu
      refine ⟨_, _, ?_, rfl, u3, .inr ⟨x, v0, by omega, hu, fun z u hz hzu => ?_, u2⟩⟩
      · rw [← u1]
        simp only [fX7_reportTrail_b19, hc, if_false, dnB_eval, g_270_1 ck.1, g_258_1 ck.1, n1, if_true]
      · have : z = x := by omega
        rw [this, hu] at hzu
        cases hzu
        exact ⟨Int64.le_refl _, fun hq => by omega⟩
    · have n1 : k.2.1 258 1 = nI X := ck.2.2.2.2.2.2.1
      have n0 : k.2.2.1 258 0 = v := ck.2.2.2.2.2.1
      have n9 : ¬ nI X = (-9 : Int32) := fun e => absurd (show nI X < 0 by rw [e]; decide) (nI_pos (by omega))
      have vb : bdO t (some v) := by rw [← hXv]; exact hb X
      have keep : lg_cmp (k.2.2.1 271 x) v ≤ 0 → fX7_reportTrail_b19 (some 270) (nI wd) (nI x) k = some (.inl (nI (x + 1)), k) := fun z => by
        simp only [fX7_reportTrail_b19, fX7_reportTrail_j74, hc, if_false, dnB_eval, g_270_1 ck.1, g_258_1 ck.1, n1, n9, g_270_2 ck.1, a_271 ck.1, i1, i2, if_true, g_258_0 ck.1, n0, z, dnP, nI_1]
      cases hu : W x with
      | none =>
        rw [hu] at px
        have px : k.2.2.1 271 x = (-1152921504606846976 : Int64) := px
        refine ⟨_, k, keep (by rw [lg_cmp_le, px]; exact Int64.le_of_lt (bd_gt ht vb)), rfl, pk, .inr ⟨X, v, by omega, hXv, fun z u hz hzu => ?_, ck⟩⟩
        by_cases q : z = x
        · rw [q, hu] at hzu; cases hzu
        · exact hall z u (by omega) hzu
      | some u =>
        have px' : k.2.2.1 271 x = u := by rw [px, hu]; rfl
        by_cases q : u ≤ v
        · refine ⟨_, k, keep (by rw [lg_cmp_le, px']; exact q), rfl, pk, .inr ⟨X, v, by omega, hXv, fun z u2 hz hzu => ?_, ck⟩⟩
          by_cases q2 : z = x
          · rw [q2, hu] at hzu
            cases hzu
            exact ⟨q, fun hq => by omega⟩
          · exact hall z u2 (by omega) hzu
        · obtain ⟨u1, u2, u3⟩ := put (v, nI X) u ck hu
          have z : ¬ lg_cmp u v ≤ 0 := by rw [lg_cmp_le]; exact q
          refine ⟨_, _, ?_, rfl, u3, .inr ⟨x, u, by omega, hu, fun z u' hz hzu => ?_, u2⟩⟩
          · rw [← u1]
            simp only [fX7_reportTrail_b19, hc, if_false, dnB_eval, g_270_1 ck.1, g_258_1 ck.1, n1, n9, g_270_2 ck.1, a_271 ck.1, i1, i2, if_true, g_258_0 ck.1, n0, px', z]
          · have q := Int64.not_le.mp q
            by_cases q2 : z = x
            · rw [q2, hu] at hzu
              cases hzu
              exact ⟨Int64.le_refl _, fun hq => by omega⟩
            · have := (hall z u' (by omega) hzu).1
              have lt := Int64.lt_of_le_of_lt this q
              exact ⟨Int64.le_of_lt lt, fun _ => lt⟩
  · rintro s k ⟨rfl, pk, inv⟩
    rcases inv with ⟨x0, ck⟩ | ⟨X, v, hX, hXv, hall, ck⟩
    · exact absurd x0 hw0
    · refine ⟨(), k, by simp only [fX7_reportTrail_b19, Int32.le_refl, if_true, dnP], X, v, ck, by omega, hXv, fun z u hzu => hall z u ?_ hzu⟩
      by_cases q : z < wd
      · exact q
      · rw [hW z (by omega)] at hzu; cases hzu
theorem best_r {q0 h : dnH} {A : Ab} {W : Nat → Option Int64} (c : RS q0 [] h A) (hW : ∀ y, 12 ≤ y → W y = none) (rv : Rv h W) (n : Int32) : ∃ q, dnIt 1000 (fX13_trailAnswer_b111 (some 289) n) (-9, 11) h = some (q, h) ∧ ((q = -9 ∧ ∀ z, W z = none) ∨ ∃ X v, q = nI X ∧ Best W X v) := by
  have KK := it_inv (f := fX13_trailAnswer_b111 (some 289) n) (Q := fun q k => k = h ∧ ((q = -9 ∧ ∀ z, W z = none) ∨ ∃ X v, q = nI X ∧ Best W X v)) (fun t s k => s.2 = stD 12 t ∧ k = h ∧ ((s.1 = -9 ∧ ∀ z, 12 - t ≤ z → W z = none) ∨ ∃ X v, s.1 = nI X ∧ 12 - t ≤ X ∧ X < 12 ∧ W X = some v ∧ ∀ z u, 12 - t ≤ z → W z = some u → u ≤ v ∧ (z < X → u < v))) 12 1000 0 (by omega) (by omega) ?_ ?_ (-9, 11) h ⟨rfl, rfl, .inl ⟨rfl, fun z hz => hW z (by omega)⟩⟩
  · obtain ⟨q, k, b1, rfl, b2⟩ := KK
    exact ⟨q, b1, b2⟩
  · rintro t s k ht ⟨hs, rfl, inv⟩
    left
    obtain ⟨s1, s2⟩ := s
    dsimp only at hs inv
    subst hs
    have es : stD 12 t = nI (11 - t) := if_neg (by omega)
    have e3 := stD_s (m := 12) ht
    have e3 : nI (11 - t) + (-1) = stD 12 (t + 1) := e3
    have ng : ¬ nI (11 - t) < 0 := nI_pos (by omega)
    have i1 := dnIn_nI (show 11 - t < 12 by omega) (by decide)
    have i2 : (nI (11 - t)).toNatClampNeg = 11 - t := nI_clamp (by omega)
    obtain ⟨v1, v2⟩ := rv (11 - t) (by omega)
    rw [es]
    cases hu : W (11 - t) with
    | none =>
      rw [hu] at v1
      have v1 : k.2.1 304 (11 - t) = 0 := v1
      refine ⟨(s1, stD 12 (t + 1)), k, by simp only [fX13_trailAnswer_b111, fX13_trailAnswer_j155, fX13_trailAnswer_j156, ng, if_false, dnB_eval, g_289_23 c.1, a_304 c.1, i1, i2, if_true, v1, show ¬ (0 : Int32) = 1 by decide, not_false_eq_true, e3, dnP], rfl, rfl, ?_⟩
      rcases inv with ⟨a1, a2⟩ | ⟨X, v, a1, a2, a3, a4, a5⟩
      · refine .inl ⟨a1, fun z hz => ?_⟩
        by_cases q : z = 11 - t
        · rw [q]; exact hu
        · exact a2 z (by omega)
      · refine .inr ⟨X, v, a1, by omega, a3, a4, fun z u hz hzu => ?_⟩
        by_cases q : z = 11 - t
        · rw [q, hu] at hzu; cases hzu
        · exact a5 z u (by omega) hzu
    | some u =>
      rw [hu] at v1 v2
      have v1 : k.2.1 304 (11 - t) = 1 := v1
      have v2 : k.2.2.1 303 (11 - t) = u := v2
      rcases inv with ⟨a1, a2⟩ | ⟨X, v, a1, a2, a3, a4, a5⟩
      · refine ⟨(nI (11 - t), stD 12 (t + 1)), k, by simp only [fX13_trailAnswer_b111, fX13_trailAnswer_j150, fX13_trailAnswer_j156, ng, if_false, dnB_eval, g_289_23 c.1, a_304 c.1, i1, i2, if_true, v1, not_true_eq_false, a1, e3, dnP], rfl, rfl, .inr ⟨11 - t, u, rfl, by omega, by omega, hu, fun z u2 hz hzu => ?_⟩⟩
        by_cases q : z = 11 - t
        · rw [q, hu] at hzu
          cases hzu
          exact ⟨Int64.le_refl _, fun hq => by omega⟩
        · rw [a2 z (by omega)] at hzu; cases hzu
      · have n9 : ¬ nI X = (-9 : Int32) := fun e => absurd (show nI X < 0 by rw [e]; decide) (nI_pos (by omega))
        have j1 := dnIn_nI (show X < 12 by omega) (by decide)
        have j2 : (nI X).toNatClampNeg = X := nI_clamp (by omega)
        have vX : k.2.2.1 303 X = v := by rw [(rv X a3).2, a4]; rfl
        by_cases q : u < v
        · have z : lg_cmp u v < 0 := by rw [lg_cmp_lt]; exact q
          refine ⟨(nI X, stD 12 (t + 1)), k, by simp only [fX13_trailAnswer_b111, fX13_trailAnswer_j155, fX13_trailAnswer_j156, ng, if_false, dnB_eval, g_289_23 c.1, a_304 c.1, i1, i2, if_true, v1, not_true_eq_false, a1, n9, g_289_22 c.1, a_303 c.1, v2, j1, j2, vX, z, e3, dnP], rfl, rfl, .inr ⟨X, v, rfl, by omega, a3, a4, fun z u2 hz hzu => ?_⟩⟩
          by_cases q2 : z = 11 - t
          · rw [q2, hu] at hzu
            cases hzu
            exact ⟨Int64.le_of_lt q, fun _ => q⟩
          · exact a5 z u2 (by omega) hzu
        · have z : ¬ lg_cmp u v < 0 := by rw [lg_cmp_lt]; exact q
          refine ⟨(nI (11 - t), stD 12 (t + 1)), k, by simp only [fX13_trailAnswer_b111, fX13_trailAnswer_j150, fX13_trailAnswer_j156, ng, if_false, dnB_eval, g_289_23 c.1, a_304 c.1, i1, i2, if_true, v1, not_true_eq_false, a1, n9, g_289_22 c.1, a_303 c.1, v2, j1, j2, vX, z, e3, dnP], rfl, rfl, .inr ⟨11 - t, u, rfl, by omega, by omega, hu, fun z u2 hz hzu => ?_⟩⟩
          by_cases q2 : z = 11 - t
          · rw [q2, hu] at hzu
            cases hzu
            exact ⟨Int64.le_refl _, fun hq => by omega⟩
          · exact ⟨Int64.le_trans (a5 z u2 (by omega) hzu).1 (Int64.not_lt.mp q), fun hq => by omega⟩
  · rintro s k ⟨hs, rfl, inv⟩
    obtain ⟨s1, s2⟩ := s
    dsimp only at hs inv
    subst hs
    have es : stD 12 12 = -1 := if_pos rfl
    refine ⟨s1, k, by simp only [fX13_trailAnswer_b111, es, show (-1 : Int32) < 0 by decide, if_true, dnP], rfl, ?_⟩
    rcases inv with ⟨a1, a2⟩ | ⟨X, v, a1, a2, a3, a4, a5⟩
    · exact .inl ⟨a1, fun z => a2 z (by omega)⟩
    · exact .inr ⟨X, v, a1, a3, a4, fun z u hzu => a5 z u (by omega) hzu⟩

theorem best_ex (W : Nat → Option Int64) (hW : ∀ y, 12 ≤ y → W y = none) (h : ∃ x v, W x = some v) : ∃ X v, Best W X v := by
  have key : ∀ n, (∀ z, z < n → W z = none) ∨ ∃ X v, X < n ∧ W X = some v ∧ ∀ z u, z < n → W z = some u → u ≤ v ∧ (z < X → u < v) := by
    intro n
    induction n with
    | zero => exact .inl (fun z hz => by omega)
    | succ n ih =>
      cases hu : W n with
      | none =>
        rcases ih with a | ⟨X, v, a1, a2, a3⟩
        · refine .inl (fun z hz => ?_)
          by_cases q : z = n
          · rw [q]; exact hu
          · exact a z (by omega)
        · refine .inr ⟨X, v, by omega, a2, fun z u hz hzu => ?_⟩
          by_cases q : z = n
          · rw [q, hu] at hzu; cases hzu
          · exact a3 z u (by omega) hzu
      | some u =>
        rcases ih with a | ⟨X, v, a1, a2, a3⟩
        · refine .inr ⟨n, u, by omega, hu, fun z u2 hz hzu => ?_⟩
          by_cases q : z = n
          · rw [q, hu] at hzu; cases hzu; exact ⟨Int64.le_refl _, fun hq => by omega⟩
          · rw [a z (by omega)] at hzu; cases hzu
        · by_cases q : u ≤ v
          · refine .inr ⟨X, v, by omega, a2, fun z u2 hz hzu => ?_⟩
            by_cases q2 : z = n
            · rw [q2, hu] at hzu; cases hzu; exact ⟨q, fun hq => by omega⟩
            · exact a3 z u2 (by omega) hzu
          · refine .inr ⟨n, u, by omega, hu, fun z u2 hz hzu => ?_⟩
            by_cases q2 : z = n
            · rw [q2, hu] at hzu; cases hzu; exact ⟨Int64.le_refl _, fun hq => by omega⟩
            · have lt := Int64.lt_of_le_of_lt (a3 z u2 (by omega) hzu).1 (Int64.not_le.mp q)
              exact ⟨Int64.le_of_lt lt, fun _ => lt⟩
  rcases key 12 with a | ⟨X, v, a1, a2, a3⟩
  · obtain ⟨x, v, hx⟩ := h
    by_cases q : x < 12
    · rw [a x q] at hx; cases hx
    · rw [hW x (by omega)] at hx; cases hx
  · refine ⟨X, v, a1, a2, fun z u hzu => ?_⟩
    by_cases q : z < 12
    · exact a3 z u q hzu
    · rw [hW z (by omega)] at hzu; cases hzu
theorem step_trail {B : Nat} (g : Int32) : Step B B (fX7_bestTrail (some 270) g) (fX13_trailAnswer (some 289) g) := by
  intro A w
  cases hg : inB g 0 3
  · exact step_ro (-1) w (fun h0 h c => by simp only [fX7_bestTrail, fX9_gridFault, g_270_0 c.1, sv (st1 c.1), hg, show ¬ (0 : Int32) ≤ -1 by decide, dnB_eval, c_isGrid, c_isKind, c_isSort, c_isPlain, r_isGrid, r_isKind, r_isSort, r_isPlain, r_in, dnP, Bool.false_eq_true, if_false, if_true]) (fun q0 q r => by simp only [fX13_trailAnswer, hg, dnB_eval, c_isGrid, c_isKind, c_isSort, c_isPlain, r_isGrid, r_isKind, r_isSort, r_isPlain, r_in, dnP, Bool.false_eq_true, if_false, if_true])
  obtain ⟨G, hG, rfl⟩ := inB_of (n := 3) (by decide) hg
  have hG : G < 4 := by omega
  by_cases hneg : A.1 G < 0
  · have hn2 : ¬ 0 ≤ A.1 G := Int32.not_le.mpr hneg
    exact step_ro (-2) w (fun h0 h c => by simp only [fX7_bestTrail, g_270_0 c.1, sv (st1 c.1), gridFault_c c.1 hG, c.pl hG, hneg, show ¬ (0 : Int32) ≤ -2 by decide, dnB_eval, c_isGrid, c_isKind, c_isSort, c_isPlain, r_isGrid, r_isKind, r_isSort, r_isPlain, r_in, dnP, Bool.false_eq_true, if_false, if_true]) (fun q0 k r => by simp only [fX13_trailAnswer, hg, g_289_4 r.1, plr_A r hG, hn2, dnB_eval, c_isGrid, c_isKind, c_isSort, c_isPlain, r_isGrid, r_isKind, r_isSort, r_isPlain, r_in, dnP, Bool.false_eq_true, if_false, if_true])
  have hn2 : 0 ≤ A.1 G := Int32.not_lt.mp hneg
  obtain ⟨m, hm, e1⟩ := grid_open w hG hneg
  have z0 : (0 : Int32) ≤ 0 := by decide
  have e4 : (4 : Int32) = nI 4 := rfl
  have uc := fun h0 h (c : CS h0 sp0 [] h A) => fu_c (a := 4) w hG hm e1 (by decide) c
  have ur := fun q0 k (r : RS q0 [] k A) => fu_r (a := 4) w hG hm e1 (by decide) r
  rw [← e4] at uc ur
  by_cases hfu : fuV (fun p => gv A (6 * G + p)) m 4 = -9
  case neg =>
    exact step_ro (-7) w (fun h0 h c => by simp only [fX7_bestTrail, g_270_0 c.1, sv (st1 c.1), gridFault_c c.1 hG, c.pl hG, hneg, z0, uc h0 h c, hfu, dnB_eval, c_isGrid, c_isKind, c_isSort, c_isPlain, r_isGrid, r_isKind, r_isSort, r_isPlain, r_in, dnP, Bool.false_eq_true, if_false, if_true]) (fun q0 k r => by simp only [fX13_trailAnswer, hg, g_289_4 r.1, plr_A r hG, hn2, v_289 r.1, ur q0 k r, hfu, dnB_eval, c_isGrid, c_isKind, c_isSort, c_isPlain, r_isGrid, r_isKind, r_isSort, r_isPlain, r_in, dnP, Bool.false_eq_true, if_false, if_true])
  have hrd : ∀ p, p < m → unr 4 (gv A (6 * G + p)) = false := fun p hp => by
    unfold fuV at hfu
    cases q : (List.range m).find? (fun p => unr 4 (gv A (6 * G + p))) with
    | some k =>
      rw [q] at hfu
      have hk : nI k = (-9 : Int32) := hfu
      have := List.mem_of_find?_eq_some q
      have := List.mem_range.mp this
      exact absurd (show nI k < 0 by rw [hk]; decide) (nI_pos (by omega))
    | none =>
      have := List.find?_eq_none.mp q p (List.mem_range.mpr hp)
      simpa using this
  obtain ⟨k1, k2, k3, k4⟩ := tr_ok w hG hm e1 hrd m (Nat.le_refl _)
  have c0 : (nI (tr A G m m).1 = 0) ↔ (tr A G m m).1 = 0 := nI_eq (b := 0) (by omega) (by decide)
  have k12 : ∀ y, 12 ≤ y → (tr A G m m).2.2 y = none := fun y hy => k3 y (by omega)
  have rbeg : ∀ q0 k, RS q0 [] k A → ∃ h2, RS q0 [] h2 A ∧ ((tr A G m m).1 ≠ 0 → Rv h2 (tr A G m m).2.2) ∧ ∀ x, ((if ¬ nI (tr A G m m).1 = 0 then dnB (dnIt 1000 (fX13_trailAnswer_b111 (some 289) (nI (tr A G m m).1)) (-9, 11)) (fun q111 => if ¬ q111 = (-9) then dnB (dnPI (some 289) 11 2 q111) (fun _ => dnB (dnGR (some 289) 11 22) (fun v16 => dnB (dnAL v16 102 q111) (fun v17 => dnB (dnCv (some 289) 11 (fX13_tells (some 289) v17 (nI (tr A G m m).1))) (fun v18 => dnP v18)))) else dnP (-9)) else dnB (dnPI (some 289) 11 2 (-9)) (fun _ => dnB (dnCv (some 289) 11 (fX13_tells (some 289) 0 0)) (fun v19 => dnP v19))) h2 = x) → fX13_trailAnswer (some 289) (nI G) k = x := fun q0 k r => by
    obtain ⟨h2, b1, b2, b3⟩ := loop_r w hG hm e1 hrd r
    refine ⟨h2, b2, b3, fun x hx => ?_⟩
    rw [← hx]
    have pl := plr_A r hG
    rw [e1] at pl hn2
    simp only [fX13_trailAnswer, hg, g_289_4 r.1, pl, hn2, v_289 r.1, ur q0 k r, hfu, b1, dnB_eval, c_isGrid, c_isKind, c_isSort, c_isPlain, r_isGrid, r_isKind, r_isSort, r_isPlain, r_in, dnP, Bool.false_eq_true, if_false, if_true]
  rcases first_of (fun p => emp (gv A (6 * G + p))) m with hf | ⟨I, hI, hI1, hI2⟩
  case inr =>
    obtain ⟨R, eR, hR⟩ : ∃ R, gv A (6 * G + I) = some R ∧ R.2.1 = 0 := by
      have hI1 : emp (gv A (6 * G + I)) = true := hI1
      cases q : gv A (6 * G + I) with
      | none => rw [q] at hI1; cases hI1
      | some R => rw [q] at hI1; exact ⟨R, rfl, of_decide_eq_true hI1⟩
    obtain ⟨t1, t2⟩ := tr_empty (A := A) (G := G) (m := m) m ⟨m - 1 - I, R, by omega, by rw [show m - 1 - (m - 1 - I) = I by omega]; exact eR, hR⟩
    refine ⟨-9, A, w, fun h0 h c => ⟨h, ?_, c⟩, fun q0 k r => ?_⟩
    · simp only [fX7_bestTrail, g_270_0 c.1, sv (st1 c.1), gridFault_c c.1 hG, c.pl hG, hneg, z0, uc h0 h c, hfu, v_270 c.1, he_yes w hG hm e1 hI hI1 hI2 c, dnB_eval, c_isGrid, c_isKind, c_isSort, c_isPlain, r_isGrid, r_isKind, r_isSort, r_isPlain, r_in, dnP, Bool.false_eq_true, if_false, if_true]
    · obtain ⟨h2, b2, b3, b4⟩ := rbeg q0 k r
      obtain ⟨q, x1, x2⟩ := best_r b2 k12 (b3 t1) (nI (tr A G m m).1)
      have hq : q = -9 := by
        rcases x2 with ⟨a1, -⟩ | ⟨X, v, -, a2⟩
        · exact a1
        · have := a2.2.1
          rw [t2 X] at this
          cases this
      refine ⟨h2, [], b4 _ ?_, b2⟩
      rw [if_pos (mt c0.mp t1)]
      simp only [dnB_eval, x1, hq, not_true_eq_false, if_false, dnP]
  have hne : ∀ s R, s < m → gv A (6 * G + (m - 1 - s)) = some R → R.2.1 ≠ 0 := fun s R hs e h0 => by
    have := hf (m - 1 - s) (by omega)
    rw [e] at this
    exact absurd h0 (of_decide_eq_false this)
  have cbeg : ∀ h0 h, CS h0 sp0 [] h A → ∃ h2, CS h0 sp0 [] h2 A ∧ Pv h2 271 (tr A G m m).2.1 (tr A G m m).2.2 ∧ ∀ h3, fX7_reportTrail (some 270) (nI (tr A G m m).2.1) h2 = some ((), h3) → fX7_bestTrail (some 270) (nI G) h = some (nI (tr A G m m).1, h3) := fun h0 h c => by
    obtain ⟨h2, b1, b2, b3⟩ := loop_c w hG hm e1 hrd c
    refine ⟨h2, b2, b3, fun h3 x => ?_⟩
    have pl := plc_A c hG
    rw [e1] at pl
    simp only [fX7_bestTrail, g_270_0 c.1, sv (st1 c.1), gridFault_c c.1 hG, c.pl hG, hneg, z0, uc h0 h c, hfu, v_270 c.1, he_no w hG hm e1 hf c, sg_0 (st1 c.1), pl, b1, v_270 b2.1, x, dnB_eval, c_isGrid, c_isKind, c_isSort, c_isPlain, r_isGrid, r_isKind, r_isSort, r_isPlain, r_in, dnP, Bool.false_eq_true, if_false, if_true]
  by_cases hc0 : (tr A G m m).1 = 0
  · have wd0 : (tr A G m m).2.1 = 0 := by
      have : ∀ t, (tr A G m t).1 = 0 → (tr A G m t).2.1 = 0 := fun t => by
        induction t with
        | zero => intro _; rfl
        | succ t ih =>
          cases e2 : gv A (6 * G + (m - 1 - t)) with
          | none => rw [tr_n e2]; exact ih
          | some Q => rw [tr_s e2]; intro hc; cases hc
      exact this m hc0
    refine ⟨nI (tr A G m m).1, setN A (0, -9, A.2.2.2.2.2), w.note, fun h0 h c => ?_, fun q0 k r => ?_⟩
    · obtain ⟨h2, b2, b3, b4⟩ := cbeg h0 h c
      have d1 := b2.told 0
      have d2 := d1.first (-9)
      refine ⟨_, b4 _ ?_, d2⟩
      have z : nI (tr A G m m).2.1 = nI 0 := by rw [wd0]
      rw [z]
      have key := dnIt_run (f := fX7_reportTrail_b19 (some 270) (nI 0)) (q := ()) (hq := dnSI (dnSL h2 258 0 0) 258 1 (-9)) 0 1000 (fun _ => (0, dnSI (dnSL h2 258 0 0) 258 1 (-9))) (by omega) (fun i hi => by omega) (by simp only [fX7_reportTrail_b19, nI_0, Int32.le_refl, if_true, dnP])
      have key : dnIt 1000 (fX7_reportTrail_b19 (some 270) (nI 0)) 0 (dnSI (dnSL h2 258 0 0) 258 1 (-9)) = some ((), dnSI (dnSL h2 258 0 0) 258 1 (-9)) := key
      simp only [fX7_reportTrail, dnB_eval, g_270_1 b2.1, p_258_0 b2.1, g_270_1 d1.1, p_258_1 d1.1, key, dnP]
    · obtain ⟨h2, b2, b3, b4⟩ := rbeg q0 k r
      have d1 := b2.first (-9)
      obtain ⟨t1, t2⟩ := tells_A d1 0 0
      have z : nI (tr A G m m).1 = 0 := c0.mpr hc0
      refine ⟨_, [], b4 _ ?_, t2⟩
      rw [if_neg (not_not_intro z), z]
      simp only [dnB_eval, p_289_2 b2.1, v_289 d1.1, t1, dnP]
  · obtain ⟨wd0, v0, hv0⟩ := tr_first (A := A) (G := G) (m := m) m hne hc0
    obtain ⟨X, v, hbest⟩ : ∃ X v, Best (tr A G m m).2.2 X v := by
      have hx : ∃ n : Nat, True := ⟨0, trivial⟩
      exact best_ex (tr A G m m).2.2 k12 ⟨0, v0, hv0⟩
    refine ⟨nI (tr A G m m).1, setN A (v, nI X, A.2.2.2.2.2), w.note, fun h0 h c => ?_, fun q0 k r => ?_⟩
    · obtain ⟨h2, b2, b3, b4⟩ := cbeg h0 h c
      obtain ⟨h3, X2, v2, x1, x2, x3⟩ := rep_c b2 (show (tr A G m m).1 ≤ 6 by omega) k2 wd0 k3 k4 b3 hv0
      obtain ⟨eX, ev⟩ := best_uniq x3 hbest
      rw [eX, ev] at x2
      exact ⟨h3, b4 _ x1, x2⟩
    · obtain ⟨h2, b2, b3, b4⟩ := rbeg q0 k r
      obtain ⟨q, x1, x2⟩ := best_r b2 k12 (b3 hc0) (nI (tr A G m m).1)
      rcases x2 with ⟨-, a2⟩ | ⟨X2, v2, a1, a2⟩
      · rw [a2 0] at hv0; cases hv0
      · obtain ⟨eX, ev⟩ := best_uniq a2 hbest
        subst eX ev
        have n9 : ¬ nI X2 = (-9 : Int32) := fun e => absurd (show nI X2 < 0 by rw [e]; decide) (nI_pos (by have := a2.1; omega))
        have d1 := b2.first (nI X2)
        have vv : (dnSI h2 289 2 (nI X2)).2.2.1 303 X2 = v2 := by
          have := (b3 hc0 X2 a2.1).2
          rw [a2.2.1] at this
          exact this
        obtain ⟨t1, t2⟩ := tells_A d1 v2 (nI (tr A G m m).1)
        refine ⟨_, [], b4 _ ?_, t2⟩
        rw [if_pos (mt c0.mp hc0)]
        simp only [dnB_eval, x1, a1, n9, not_false_eq_true, if_true, p_289_2 b2.1, g_289_22 d1.1, a_303 d1.1, dnIn_nI a2.1 (by decide), nI_clamp (show X2 < 2 ^ 31 by have := a2.1; omega), vv, v_289 d1.1, t1, dnP]

theorem call_trail {B : Nat} (g : Int32) : Call B B (fX12_trail (some 0) g) (fX13_trail (some 289) g) :=
  callA (Nat.le_refl _) (fun h v h1 s1 s2 e => by simp only [fX12_trail, dnB_eval, g_0_7 s1, v_270 s1, e, v_0 s2, tally_c s2, dnP]) (fun h v h1 s1 s2 e => by simp only [fX13_trail, dnB_eval, v_289 s1, e, v_289 s2, said_r s2, dnP]) (step_trail g)
