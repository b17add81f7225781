/-! ABS 21: above -/
theorem freshRow_E {h0 h : dnH} {S : Nat → Int32} {X : List Nat} {A : Ab} {n kd ln : Nat} (c : CS h0 S X h A) (hX : spX S X) (hf : isFr X A n) (hkd : kd < 12) : ∃ h2, fX9_freshRow (some 1) (nI kd) (nI ln) h = some (some (5 + 4 * n), h2) ∧ CS h0 S (n :: X) h2 (setR A n (newR kd ln)) ∧ EqR (5 + 4 * n) h h2 := by
  obtain ⟨hn, hnl, hlo⟩ := hf
  have hh := c.1
  have key : dnIt 1000 (fX9_freshRow_b2 (some 1) (nI kd) (nI ln)) (nI 0) h = some (nI n, h) := by
    refine dnIt_run (f := fX9_freshRow_b2 (some 1) (nI kd) (nI ln)) (q := nI n) (hq := h) n 1000 (fun i => (nI i, h)) (by omega) ?_ ?_
    · intro i hi
      have hc : ¬ ((30 : Int32) ≤ nI i) := fun hc => by have := (nI_leI (a := 30) (b := i) (by omega) (by omega)).mp hc; omega
      obtain ⟨k, hk, ek⟩ := (c.live_iff hX (show i < 31 by omega)).mp (hlo i hi)
      obtain ⟨j, j1, j2, j3⟩ := least_of (P := fun k => h.2.1 3 k = nI i) k ek
      have h9 : ¬ nI j = (-9 : Int32) := fun e => absurd (show nI j < 0 by rw [e]; decide) (nI_pos (by omega))
      simp only [fX9_freshRow_b2, hc, if_false, dnB_eval, sv (st1 hh), holder_at hh (show j < 30 by omega) j2 j3, h9, dnP, nI_1]
    · by_cases c30 : n = 30
      · subst c30
        simp only [fX9_freshRow_b2, show (30 : Int32) ≤ nI 30 by decide, if_true, dnP]
      · have hc : ¬ ((30 : Int32) ≤ nI n) := fun hc => by have := (nI_leI (a := 30) (b := n) (by omega) (by omega)).mp hc; omega
        have hno : ∀ k, k < 30 → ¬ h.2.1 3 k = nI n := fun k hk e => hnl ((c.live_iff hX hn).mpr ⟨k, hk, e⟩)
        simp only [fX9_freshRow_b2, hc, if_false, dnB_eval, sv (st1 hh), holder_no hh hno, if_true, dnP]
  rw [nI_0] at key
  obtain ⟨h2, e1, e2, e3⟩ := begin_A (n := ln) (row1 hh hn) hkd
  have c2 : CS h0 S (n :: X) h2 (setR A n (newR kd ln)) := c.setRow hn (fun m hm => by
    rcases List.mem_cons.mp hm with hm | hm
    · exact .inl hm
    · exact .inr hm) e2 e3
  refine ⟨h2, ?_, c2, e2⟩
  have g2 := sg_2 (st1 hh)
  have g3 := sg_2 (st1 c2.1)
  simp only [fX9_freshRow, fX9_freshRow_j24, dnB_eval, key, g2, g3, sa_3 (st1 hh) hn, sa_3 (st1 c2.1) hn, show 1 + 4 + 4 * n = 5 + 4 * n by omega, rv (row1 hh hn), e1, dnP]
theorem aI_cI (F : Nat → Bool) : ∀ n, aI F n = cI F n := by
  intro n
  induction n with
  | zero => rfl
  | succ n ih =>
    show aI F n + dnZ (F n) = if F n then cI F n + 1 else cI F n
    rw [ih]
    cases F n
    · show cI F n + 0 = cI F n
      rw [Int32.add_zero]
    · rfl
def gtC (c c2 : Cel) : Bool := if isRlN c.1 then dGt c.2.2 c2.2.2 else decide (c2.2.1 < c.2.1)
theorem exceeds_A {h : dnH} {a b i j : Nat} {R Q : Rw} (ha : RowAt h a) (hb : RowAt h b) (hR : RwH h a R) (hQ : RwH h b Q) (hi : i < 12) (hj : j < 12) (hs : (R.2.2 i).1 < 12) : fX5_exceeds (some a) (nI i) (some b) (nI j) h = some (gtC (R.2.2 i) (Q.2.2 j), h) := by
  obtain ⟨r1, r2, r3⟩ := hR.2.2 i hi
  obtain ⟨q1, q2, q3⟩ := hQ.2.2 j hj
  have := exceeds_c ha hb hi hj r1 hs
  rw [r2, r3, q2, q3] at this
  exact this
theorem setC_self {R : Rw} {i : Nat} {c : Cel} (h : R.2.2 i = c) : setC R i c = R := by
  unfold setC
  have : (fun j => if j = i then c else R.2.2 j) = R.2.2 := by
    funext j
    split
    · rename_i q; rw [q, h]
    · rfl
  rw [this]
theorem wl_A {h : dnH} {a i : Nat} {R : Rw} {v : Int64} (hR : RwH h a R) (hi : i < 12) : EqR a h (dnSL h (a + 2) i v) ∧ RwH (dnSL h (a + 2) i v) a (setC R i ((R.2.2 i).1, v, (R.2.2 i).2.2)) := by
  obtain ⟨r1, r2, r3⟩ := hR.2.2 i hi
  obtain ⟨k1, k2⟩ := wr_A (i := i) (c := ((R.2.2 i).1, v, (R.2.2 i).2.2)) hR
  have e : wr h a i (nI (R.2.2 i).1) v (R.2.2 i).2.2 = dnSL h (a + 2) i v := by
    unfold wr dnSD dnSL dnSI
    simp only [dnUp_id r1, dnUp_id r3]
  rw [e] at k1 k2
  exact ⟨k1, k2⟩
theorem wd_A {h : dnH} {a i : Nat} {R : Rw} {v : UInt64} (hR : RwH h a R) (hi : i < 12) : EqR a h (dnSD h (a + 3) i v) ∧ RwH (dnSD h (a + 3) i v) a (setC R i ((R.2.2 i).1, (R.2.2 i).2.1, v)) := by
  obtain ⟨r1, r2, r3⟩ := hR.2.2 i hi
  obtain ⟨k1, k2⟩ := wr_A (i := i) (c := ((R.2.2 i).1, (R.2.2 i).2.1, v)) hR
  have e : wr h a i (nI (R.2.2 i).1) (R.2.2 i).2.1 v = dnSD h (a + 3) i v := by
    unfold wr dnSD dnSL dnSI
    simp only [dnUp_id r1, dnUp_id r2]
  rw [e] at k1 k2
  exact ⟨k1, k2⟩
theorem RS.num {h0 h : dnH} {X : List Nat} {A : Ab} {n i : Nat} {v : Int64} (c : RS h0 X h A) (hn : n < 31) (hl : live X A n) (hi : i < 12) : RS h0 X (dnSL h 297 (12 * n + i) v) (setR A n (setC (A.2.2.1 n) i (((A.2.2.1 n).2.2 i).1, v, ((A.2.2.1 n).2.2 i).2.2))) := by
  obtain ⟨r1, r2, r3⟩ := (c.row hn hl).2.2 i hi
  have := c.cell (x := (((A.2.2.1 n).2.2 i).1, v, ((A.2.2.1 n).2.2 i).2.2)) hn hl hi
  have e : wrR h (12 * n + i) (nI ((A.2.2.1 n).2.2 i).1) v ((A.2.2.1 n).2.2 i).2.2 = dnSL h 297 (12 * n + i) v := by
    unfold wrR dnSD dnSL dnSI
    simp only [dnUp_id r1, dnUp_id r3]
  rw [e] at this
  exact this
theorem gt_or {B B2 a : Nat} {c c2 : Cel} (h1 : c.1 = a) (h2 : c2.1 = a) (v1 : valOk B c.1 c.2.1 c.2.2) (v2 : valOk B2 c2.1 c2.2.1 c2.2.2) : (decide (c2.2.1 < c.2.1) || dGt c.2.2 c2.2.2) = gtC c c2 := by
  unfold gtC
  cases q : isRlN c.1
  · have z1 := v1.2.2.1 q
    have z2 := v2.2.2.1 (by rw [h2, ← h1]; exact q)
    have z3 : dGt FP.dconst0 FP.dconst0 = false := by decide +kernel
    rw [z1, z2, z3, Bool.or_false]
    rfl
  · have z1 := v1.2.2.2.1 q
    have z2 := v2.2.2.2.1 (by rw [h2, ← h1]; exact q)
    have z3 : decide ((0 : Int64) < 0) = false := by decide
    rw [z1, z2, z3, Bool.false_or]
    rfl
theorem isAbove_A {B : Nat} {h0 h : dnH} {X : List Nat} {A : Ab} {r i a : Nat} {v : Int64} (hB : 16 ≤ B) (c : RS h0 X h A) (hr : r < 31) (hl : live X A r) (hi : i < 12) (ha : a < 8) (w : celOk B (A.2.2.1 r).1 ((A.2.2.1 r).2.2 i)) (ht : tk a ((A.2.2.1 r).2.2 i).1 = true) : ∃ h2, fX13_isAbove (some 289) (nI r) (nI i) (nI a) v h = some (gtC (cvt a ((A.2.2.1 r).2.2 i)) (mkC a v), h2) ∧ RS h0 X h2 A := by
  obtain ⟨h1, a1, c1, v1⟩ := makes_A c (show a < 12 by omega) v
  obtain ⟨h2, a2, c2, v2⟩ := loads_A c1 hr hl hi
  obtain ⟨h3, a3, c3, v3⟩ := widens_A (B := B) c2 v2 ha w.1 ht w.2.2.2
  have ok := celOk_cvt hB (show a < 12 by omega) w.1 ht w.2.2.2
  refine ⟨h3, ?_, c3⟩
  rw [← gt_or (a := a) (if_pos ha) rfl ok.2.2.2 (valOk_mkC hB (show a < 12 by omega) v)]
  simp only [fX13_isAbove, fX13_isAbove_j50, dnB_eval, v_289 c.1, a1, g_289_13 c1.1, g_289_14 c1.1, v1.2.1, v1.2.2, v_289 c1.1, a2, v_289 c2.1, a3, g_289_13 c3.1, v3.2.1, dnP]
  by_cases q : (mkC a v).2.1 < (cvt a ((A.2.2.1 r).2.2 i)).2.1
  · have q1 : 0 < lg_cmp (cvt a ((A.2.2.1 r).2.2 i)).2.1 (mkC a v).2.1 := by
      rw [← Int32.not_le, lg_cmp_le, Int64.not_le]
      exact q
    rw [if_pos q1, decide_eq_true q]
    rfl
  · have q1 : ¬ 0 < lg_cmp (cvt a ((A.2.2.1 r).2.2 i)).2.1 (mkC a v).2.1 := by
      rw [← Int32.not_le, lg_cmp_le, Int64.not_le]
      exact q
    rw [if_neg q1, decide_eq_false q, Bool.false_or]
    simp only [dnB_eval, g_289_14 c3.1, v3.2.2]
    unfold dGt
    by_cases q2 : Op.cmpValue (FP.dcmp (cvt a ((A.2.2.1 r).2.2 i)).2.2 (mkC a v).2.2) .l ≤ 0
    · rw [if_pos q2, decide_eq_false (not_not_intro q2)]
      rfl
    · rw [if_neg q2, decide_eq_true q2]
      rfl
theorem step_above {B : Nat} (hB : 16 ≤ B) (g p s : Int32) (v : Int64) (q : Int32) : Step B B (fX6_markGreater (some 259) g p s v q) (fX13_aboveDeed (some 289) g p s v q) := by
  intro A w
  cases hg : inB g 0 3
  · exact step_ro (-1) w (fun h0 h c => by simp only [fX6_markGreater, hg, dnB_eval, c_isGrid, c_isKind, c_isSort, c_isPlain, r_isGrid, r_isKind, r_isSort, r_isPlain, r_in, dnP, Bool.false_eq_true, if_false, if_true]) (fun q0 q r => by simp only [fX13_aboveDeed, hg, dnB_eval, c_isGrid, c_isKind, c_isSort, c_isPlain, r_isGrid, r_isKind, r_isSort, r_isPlain, r_in, dnP, Bool.false_eq_true, if_false, if_true])
  cases hk : inB s 4 7
  · have h1 : ¬ (4 ≤ s ∧ s ≤ 7) := of_decide_eq_false hk
    refine step_ro (-1) w (fun h0 h c => ?_) (fun q0 q r => by simp only [fX13_aboveDeed, hg, hk, dnB_eval, c_isGrid, c_isKind, c_isSort, c_isPlain, r_isGrid, r_isKind, r_isSort, r_isPlain, r_in, dnP, Bool.false_eq_true, if_false, if_true])
    by_cases c0 : s < 4
    · simp only [fX6_markGreater, hg, c0, dnB_eval, c_isGrid, c_isKind, c_isSort, c_isPlain, r_isGrid, r_isKind, r_isSort, r_isPlain, r_in, dnP, Bool.false_eq_true, if_false, if_true]
    · have c2 : ¬ s ≤ 7 := fun hc => h1 ⟨Int32.not_lt.mp c0, hc⟩
      simp only [fX6_markGreater, hg, c0, c2, dnB_eval, c_isGrid, c_isKind, c_isSort, c_isPlain, r_isGrid, r_isKind, r_isSort, r_isPlain, r_in, dnP, Bool.false_eq_true, if_false, if_true]
  obtain ⟨s4, s7⟩ := of_decide_eq_true hk
  obtain ⟨a, ha7, rfl⟩ := inB_of (n := 7) (p := s) (by decide) (decide_eq_true ⟨Int32.le_trans (by decide) s4, s7⟩)
  have ha4 : 4 ≤ a := (nI_leI (a := 4) (b := a) (by decide) (by omega)).mp s4
  have x4 : ¬ nI a < 4 := Int32.not_lt.mpr s4
  rcases lookR w g p with ⟨f, f0, -, f2, f3⟩ | ⟨G, P, m, r, hG, hP, hm, hr, rfl, rfl, e1, e2, -, hl, -, hrw, l1, l2⟩
  · obtain ⟨n1, n2⟩ := neg_fault f0
    exact step_ro f w (fun h0 h c => by simp only [fX6_markGreater, hg, x4, s7, g_259_0 c.1, sv (st1 c.1), (f2 h0 _ _ h c).1, (f2 h0 _ _ h c).2, Option.elim, dnB_eval, c_isGrid, c_isKind, c_isSort, c_isPlain, r_isGrid, r_isKind, r_isSort, r_isPlain, r_in, dnP, Bool.false_eq_true, if_false, if_true]) (fun q0 q r => by simp only [fX13_aboveDeed, hg, hk, v_289 r.1, f3 hg q0 _ q r, n1, dnB_eval, c_isGrid, c_isKind, c_isSort, c_isPlain, r_isGrid, r_isKind, r_isSort, r_isPlain, r_in, dnP, Bool.false_eq_true, if_false, if_true])
  have N1 := hrw.2.1
  have cra : ∀ h0 h, CS h0 sp0 [] h A → fX5_cellsReadAs (some (5 + 4 * r)) (nI a) h = some (decide ((A.2.2.1 r).2.1 = 0) || (decide ((A.2.2.1 r).1 < 8) && tk a (A.2.2.1 r).1), h) := fun h0 h c => cellsReadAs_c (row1 c.1 hr) (c.row hr hl).2.1 N1 (c.row hr hl).1 hrw.1 (by omega)
  have le0 : (nI (A.2.2.1 r).2.1 ≤ 0) ↔ (A.2.2.1 r).2.1 = 0 := by rw [show (0 : Int32) = nI 0 from rfl, nI_leI (by omega) (by decide)]; omega
  by_cases hrd : (decide ((A.2.2.1 r).2.1 = 0) || (decide ((A.2.2.1 r).1 < 8) && tk a (A.2.2.1 r).1)) = true
  case neg =>
    have hrd2 : (decide ((A.2.2.1 r).2.1 = 0) || (decide ((A.2.2.1 r).1 < 8) && tk a (A.2.2.1 r).1)) = false := by simpa using hrd
    obtain ⟨y1, y2⟩ := Bool.or_eq_false_iff.mp hrd2
    have y1 : ¬ (A.2.2.1 r).2.1 = 0 := of_decide_eq_false y1
    exact step_ro (-7) w (fun h0 h c => by simp only [fX6_markGreater, hg, x4, s7, g_259_0 c.1, sv (st1 c.1), l1 h0 _ _ h c, Option.elim, rv (row1 c.1 hr), cra h0 h c, hrd2, dnB_eval, c_isGrid, c_isKind, c_isSort, c_isPlain, r_isGrid, r_isKind, r_isSort, r_isPlain, r_in, dnP, Bool.false_eq_true, if_false, if_true]) (fun q0 k r' => by simp only [fX13_aboveDeed, hg, hk, v_289 r'.1, (l2 q0 _ k r').1, (l2 q0 _ k r').2, g_289_7 r'.1, len_A r' hr hl, le0, y1, isReadable_A r' hr hl hrw.1 (show a < 12 by omega), y2, dnB_eval, c_isGrid, c_isKind, c_isSort, c_isPlain, r_isGrid, r_isKind, r_isSort, r_isPlain, r_in, dnP, Bool.false_eq_true, if_false, if_true])
  have htk : ∀ k, k < (A.2.2.1 r).2.1 → tk a ((A.2.2.1 r).2.2 k).1 = true := fun k hk => by
    rcases Bool.or_eq_true_iff.mp hrd with y | y
    · have := of_decide_eq_true y
      omega
    · obtain ⟨y1, y2⟩ := Bool.and_eq_true_iff.mp y
      rw [(hrw.2.2 k (by omega)).2.2.1 (of_decide_eq_true y1)]
      exact y2
  have dref : ∀ q0 k, RS q0 [] k A → ∀ x, fX13_aboveDeed_j66 (some 289) (nI G) (nI a) v q (nI r) k = x → fX13_aboveDeed (some 289) (nI G) (nI P) (nI a) v q k = x := fun q0 k r' x hx => by
    rw [← hx]
    by_cases y : (A.2.2.1 r).2.1 = 0
    · have z := le0.mpr y
      simp only [fX13_aboveDeed, hg, hk, v_289 r'.1, (l2 q0 _ k r').1, (l2 q0 _ k r').2, g_289_7 r'.1, len_A r' hr hl, z, dnB_eval, c_isGrid, c_isKind, c_isSort, c_isPlain, r_isGrid, r_isKind, r_isSort, r_isPlain, r_in, dnP, Bool.false_eq_true, if_false, if_true]
    · have y2 : (decide ((A.2.2.1 r).1 < 8) && tk a (A.2.2.1 r).1) = true := by
        rcases Bool.or_eq_true_iff.mp hrd with z | z
        · exact absurd (of_decide_eq_true z) y
        · exact z
      simp only [fX13_aboveDeed, hg, hk, v_289 r'.1, (l2 q0 _ k r').1, (l2 q0 _ k r').2, g_289_7 r'.1, len_A r' hr hl, le0, y, isReadable_A r' hr hl hrw.1 (show a < 12 by omega), y2, dnB_eval, c_isGrid, c_isKind, c_isSort, c_isPlain, r_isGrid, r_isKind, r_isSort, r_isPlain, r_in, dnP, Bool.false_eq_true, if_false, if_true]
  rcases lookP w (nI G) q with ⟨f, f0, -, f2, f3⟩ | ⟨G', q', m', hG', hq', hm', eg, rfl, e1', -, ho, k1, k2⟩
  · obtain ⟨n1, n2⟩ := neg_fault f0
    exact step_ro (-3) w (fun h0 h c => by simp only [fX6_markGreater, hg, x4, s7, g_259_0 c.1, sv (st1 c.1), l1 h0 _ _ h c, Option.elim, rv (row1 c.1 hr), cra h0 h c, hrd, (f2 h0 _ _ h c).2.1, dnB_eval, c_isGrid, c_isKind, c_isSort, c_isPlain, r_isGrid, r_isKind, r_isSort, r_isPlain, r_in, dnP, Bool.false_eq_true, if_false, if_true]) (fun q0 k r' => dref q0 k r' _ (by simp only [fX13_aboveDeed_j66, v_289 r'.1, (f3 hg q0 _ k r').1, n1, dnB_eval, c_isGrid, c_isKind, c_isSort, c_isPlain, r_isGrid, r_isKind, r_isSort, r_isPlain, r_in, dnP, Bool.false_eq_true, if_false, if_true]))
  have eG : G' = G := ((nI_eq (by omega) (by omega)).mp eg).symm
  subst eG
  obtain ⟨x, hx⟩ := exFr (X := []) A (by decide)
  have hx1 := hx.1
  have hrx : r ≠ x := fun e => hx.2.1 (e ▸ hl)
  have hlx : live [x] A x := .inl (List.mem_singleton.mpr rfl)
  have hlr : live [x] A r := live_mono subN hl
  let F : Nat → Bool := fun i => gtC (cvt a ((A.2.2.1 r).2.2 i)) (mkC a v)
  let M : Nat → Rw := fun j => fillR (newR 0 (A.2.2.1 r).2.1) 0 j (fun i => (0, if F i = true then 1 else 0, FP.dconst0))
  have Mc : ∀ j, (M j).2.2 j = (0, 0, FP.dconst0) := fun j => by
    show (if 0 ≤ j ∧ j < 0 + j then _ else newC 0) = _
    rw [if_neg (by omega)]
    rfl
  have Ms : ∀ j, M (j + 1) = setC (M j) j (0, if F j = true then 1 else 0, FP.dconst0) := fun j => by
    show fillR _ 0 (j + 1) _ = setC (fillR _ 0 j _) j _
    rw [fillR_s, Nat.zero_add]
  have z0 : Fl 16 FP.dconst0 := ⟨0, fb_of (K := 1) (by decide) (by decide), by decide +kernel⟩
  have okM : rwOk B (M (A.2.2.1 r).2.1) := rwOk_fill (rwOk_new hB (by decide) N1) (fun k hk => by
    refine ⟨(show (0 : Nat) < 12 by decide), (show tk 0 0 = true by decide), fun _ => rfl, fun _ => ?_, fun _ => ?_, fun _ => rfl, fun hc => (by cases hc), fun hc => (by cases hc), fun hc => (by cases hc), fun hc => (by cases hc)⟩
    · show -2 ^ 31 ≤ (if F k = true then (1 : Int64) else 0).toInt ∧ (if F k = true then (1 : Int64) else 0).toInt < 2 ^ 31
      split <;> decide
    · show (if F k = true then (1 : Int64) else 0) = 0 ∨ (if F k = true then (1 : Int64) else 0) = 1
      split
      · exact .inr rfl
      · exact .inl rfl)
  refine ⟨cI F (A.2.2.1 r).2.1, setH (setR A x (M (A.2.2.1 r).2.1)) (6 * G' + q') (nI x), wf_new w hx1 okM hG hm' hq' e1', fun h0 h c => ?_, fun q0 k r' => ?_⟩
  · obtain ⟨h1, a1, a2, a3⟩ := begin_A (n := (A.2.2.1 r).2.1) (rw264 c.1) (show a < 12 by omega)
    have c1 := c.hand (by decide) (by decide) a2
    obtain ⟨h2, b1, b2, b3⟩ := append_H (B := B) (a := 0) (i := 0) (n := (A.2.2.1 r).2.1) (rw264 c1.1) (row1 c1.1 hr) a3 (c1.row hr hl) (by omega) (rwOk_new hB (show a < 12 by omega) N1) (by omega) (by omega) (fun k hk => by
      rw [Nat.zero_add]
      exact ⟨(hrw.2.2 k (by omega)).1, htk k hk, (hrw.2.2 k (by omega)).2.2.2⟩)
    rw [nI_0] at b1
    have c2 := c1.hand (by decide) (by decide) b2
    obtain ⟨h3, d1, d2, d3⟩ := become_A (rw260 c2.1) (show a < 12 by omega) v
    have c3 := c2.hand (by decide) (by decide) d2
    have b4 := d2.row (show 264 + 4 ≤ 260 ∨ 260 + 4 ≤ 264 by omega) b3
    obtain ⟨h4, f1, c4, f2⟩ := freshRow_E (kd := 0) (ln := (A.2.2.1 r).2.1) c3 spX_0 hx (by decide)
    have b5 := f2.row (show 264 + 4 ≤ 5 + 4 * x ∨ 5 + 4 * x + 4 ≤ 264 by omega) b4
    have d5 := f2.row (show 260 + 4 ≤ 5 + 4 * x ∨ 5 + 4 * x + 4 ≤ 260 by omega) d3
    rw [nI_0] at f1
    have b5c : ∀ i, i < (A.2.2.1 r).2.1 → (fillR (newR a (A.2.2.1 r).2.1) 0 (A.2.2.1 r).2.1 (fun k => cvt (newR a (A.2.2.1 r).2.1).1 ((A.2.2.1 r).2.2 (0 + k)))).2.2 i = cvt a ((A.2.2.1 r).2.2 i) := fun i hi => by
      show (if 0 ≤ i ∧ i < 0 + (A.2.2.1 r).2.1 then cvt a ((A.2.2.1 r).2.2 (0 + (i - 0))) else _) = _
      rw [if_pos (by omega), Nat.zero_add, Nat.sub_zero]
    have b5l : (fillR (newR a (A.2.2.1 r).2.1) 0 (A.2.2.1 r).2.1 (fun k => cvt (newR a (A.2.2.1 r).2.1).1 ((A.2.2.1 r).2.2 (0 + k)))).2.1 = (A.2.2.1 r).2.1 := rfl
    generalize fillR (newR a (A.2.2.1 r).2.1) 0 (A.2.2.1 r).2.1 (fun k => cvt (newR a (A.2.2.1 r).2.1).1 ((A.2.2.1 r).2.2 (0 + k))) = W at b3 b4 b5 b5c b5l
    have KK := it_inv (f := fX6_markGreater_b134 (some 259) (nI G') (nI q') (some (5 + 4 * x))) (Q := fun s k => s = cI F (A.2.2.1 r).2.1 ∧ CS h0 sp0 [x] k (setR A x (M (A.2.2.1 r).2.1))) (fun j s k => s = (cI F j, nI j) ∧ CS h0 sp0 [x] k (setR A x (M j)) ∧ RwH k 264 (W.1, (A.2.2.1 r).2.1, W.2.2) ∧ RwH k 260 (setC (newR 8 1) 0 (mkC a v))) (A.2.2.1 r).2.1 1000 0 (by omega) (by omega) ?_ ?_ (cI F 0, nI 0) h4 ⟨rfl, ?_, ?_, d5⟩
    · obtain ⟨_, h5, t1, rfl, c5⟩ := KK
      have t1 : dnIt 1000 (fX6_markGreater_b134 (some 259) (nI G') (nI q') (some (5 + 4 * x))) (0, 0) h4 = some (cI F (A.2.2.1 r).2.1, h5) := t1
      obtain ⟨z1, c6⟩ := place_A (q := q') c5 hG (by omega) hx1 hlx
      have lr := (c.row hr hl).2.1
      have lr1 := (c1.row hr hl).2.1
      have lr3 := (c3.row hr hl).2.1
      refine ⟨_, ?_, c6.sub subN⟩
      simp only [fX6_markGreater, hg, x4, s7, g_259_0 c.1, sv (st1 c.1), l1 h0 _ _ h c, Option.elim, rv (row1 c.1 hr), cra h0 h c, hrd, (k1 h0 _ _ h c).2, g_259_3 c.1, rg_i (row1 c.1 hr), lr, rv (rw264 c.1), a1, g_259_3 c1.1, rg_i (row1 c1.1 hr), lr1, b1, g_259_2 c2.1, rv (rw260 c2.1), d1, g_259_0 c3.1, rg_i (row1 c3.1 hr), lr3, sv (st1 c3.1), f1, t1, g_259_0 c5.1, sv (st1 c5.1), z1, dnB_eval, c_isGrid, c_isKind, c_isSort, c_isPlain, r_isGrid, r_isKind, r_isSort, r_isPlain, r_in, dnP, Bool.false_eq_true, if_false, if_true]
    · rintro j s k hj ⟨rfl, ck, hw, hh⟩
      left
      have hc : ¬ (nI (A.2.2.1 r).2.1 ≤ nI j) := fun hc => by have := (nI_leI (a := (A.2.2.1 r).2.1) (b := j) (by omega) (by omega)).mp hc; omega
      have ecv := celOk_cvt hB (show a < 12 by omega) (hrw.2.2 j (by omega)).1 (htk j hj) (hrw.2.2 j (by omega)).2.2.2
      have ex := exceeds_A (j := 0) (rw264 ck.1) (rw260 ck.1) hw hh (show j < 12 by omega) (by decide) (by show (W.2.2 j).1 < 12; rw [b5c j hj]; exact ecv.1)
      have ex : fX5_exceeds (some 264) (nI j) (some 260) 0 k = some (gtC (W.2.2 j) (mkC a v), k) := ex
      rw [b5c j hj] at ex
      have ex : fX5_exceeds (some 264) (nI j) (some 260) 0 k = some (F j, k) := ex
      have lw : k.2.1 264 2 = nI (A.2.2.1 r).2.1 := hw.2.1
      cases hF : F j
      · rw [hF] at ex
        have em : M (j + 1) = M j := by rw [Ms, hF]; exact setC_self (Mc j)
        have cn : cI F (j + 1) = cI F j := by show (if F j = true then _ else _) = _; rw [hF]; rfl
        refine ⟨_, k, ?_, rfl, by rw [em]; exact ck, hw, hh⟩
        rw [cn]
        simp only [fX6_markGreater_b134, fX6_markGreater_j175, dnB_eval, g_259_3 ck.1, rg_i (rw264 ck.1), lw, hc, if_false, g_259_2 ck.1, rv (rw264 ck.1), ex, Bool.false_eq_true, dnP, nI_1]
      · rw [hF] at ex
        have rx := ck.row hx1 hlx
        rw [setR_at] at rx
        obtain ⟨y1, y2⟩ := wl_A (v := 1) rx (show j < 12 by omega)
        rw [Mc j] at y2
        have em : M (j + 1) = setC (M j) j (0, 1, FP.dconst0) := by rw [Ms, hF]; rfl
        have y2 : RwH (dnSL k (5 + 4 * x + 2) j 1) (5 + 4 * x) (setC (M j) j (0, 1, FP.dconst0)) := y2
        rw [← em] at y2
        have c5 := ck.setRow (Y := [x]) hx1 (fun m hm => .inr hm) y1 y2
        rw [setR_setR] at c5
        have cn : cI F (j + 1) = cI F j + 1 := by show (if F j = true then _ else _) = _; rw [hF]; rfl
        refine ⟨_, _, ?_, rfl, c5, y1.row (by omega) hw, y1.row (by omega) hh⟩
        rw [cn]
        simp only [fX6_markGreater_b134, fX6_markGreater_j175, dnB_eval, g_259_3 ck.1, rg_i (rw264 ck.1), lw, hc, if_false, g_259_2 ck.1, rv (rw264 ck.1), ex, if_true, rg_4 (row1 ck.1 hx1), rt_2 (row1 ck.1 hx1), dnIn_nI (show j < 12 by omega) (by decide), nI_clamp (show j < 2 ^ 31 by omega), dnP, nI_1]
    · rintro s k ⟨rfl, ck, hw, hh⟩
      have lw : k.2.1 264 2 = nI (A.2.2.1 r).2.1 := hw.2.1
      exact ⟨_, k, by simp only [fX6_markGreater_b134, dnB_eval, g_259_3 ck.1, rg_i (rw264 ck.1), lw, Int32.le_refl, if_true, dnP], rfl, ck⟩
    · have : M 0 = newR 0 (A.2.2.1 r).2.1 := fillR_0
      rw [this]
      exact c4
    · exact ⟨b5.1, b5.2.1.trans (by rw [b5l]), b5.2.2⟩
  · obtain ⟨k3, a1, r1⟩ := newRow_A (kd := 0) (ln := (A.2.2.1 r).2.1) r' w.2.1 hx (by decide)
    rw [nI_0] at a1
    have lx : ∀ j k, RS q0 [x] k (setR A x (M j)) → dnAI (some 294) 100 (nI r) k = some (nI (A.2.2.1 r).2.1, k) := fun j k rk => by
      have := len_A rk hr hlr
      rw [setR_ne hrx] at this
      exact this
    have KK := it_inv (f := fX13_aboveDeed_b99 (some 289) (nI G') (nI a) v (nI q') (nI r) (nI x)) (Q := fun s k => s = cI F (A.2.2.1 r).2.1 ∧ RS q0 [x] k (setR A x (M (A.2.2.1 r).2.1))) (fun j s k => s = (cI F j, nI j) ∧ RS q0 [x] k (setR A x (M j))) (A.2.2.1 r).2.1 1000 0 (by omega) (by omega) ?_ ?_ (cI F 0, nI 0) k3 ⟨rfl, by rw [show M 0 = newR 0 (A.2.2.1 r).2.1 from fillR_0]; exact r1⟩
    · obtain ⟨_, k4, b1, rfl, r2⟩ := KK
      have b1 : dnIt 1000 (fX13_aboveDeed_b99 (some 289) (nI G') (nI a) v (nI q') (nI r) (nI x)) (0, 0) k3 = some (cI F (A.2.2.1 r).2.1, k4) := b1
      obtain ⟨d1, r3⟩ := holdsNow_A (v := nI x) (p := q') r2 hG (by omega) (fun n hn e => by
        rw [← (nI_eq (by omega) (by omega)).mp e]
        exact hlx)
      rw [rc_nI hx1] at d1 r3
      exact ⟨_, _, dref q0 k r' _ (by simp only [fX13_aboveDeed_j66, v_289 r'.1, (k2 q0 _ k r').1, g_289_7 r'.1, len_A r' hr hl, a1, b1, v_289 r2.1, d1, dnB_eval, c_isGrid, c_isKind, c_isSort, c_isPlain, r_isGrid, r_isKind, r_isSort, r_isPlain, r_in, dnP, Bool.false_eq_true, if_false, if_true]), r3⟩
    · rintro j s k hj ⟨rfl, rk⟩
      left
      have hc : ¬ (nI (A.2.2.1 r).2.1 ≤ nI j) := fun hc => by have := (nI_leI (a := (A.2.2.1 r).2.1) (b := j) (by omega) (by omega)).mp hc; omega
      obtain ⟨k2, t1, t2⟩ := isAbove_A (B := B) (v := v) (a := a) (i := j) hB rk hr hlr (by omega) (by omega) (by rw [setR_ne hrx]; exact hrw.2.2 j (by omega)) (by rw [setR_ne hrx]; exact htk j hj)
      rw [setR_ne hrx] at t1
      have t1 : fX13_isAbove (some 289) (nI r) (nI j) (nI a) v k = some (F j, k2) := t1
      have t3 := t2.num (v := if F j = true then 1 else 0) hx1 hlx (show j < 12 by omega)
      rw [setR_at, setR_setR, Mc j] at t3
      have t3 : RS q0 [x] (dnSL k2 297 (12 * x + j) (if F j = true then 1 else 0)) (setR A x (setC (M j) j (0, if F j = true then 1 else 0, FP.dconst0))) := t3
      rw [← Ms j] at t3
      have i1 := dnIn_nI (show 12 * x + j < 384 by omega) (by decide)
      have i2 : (nI (12 * x + j)).toNatClampNeg = 12 * x + j := nI_clamp (by omega)
      refine ⟨_, _, ?_, rfl, t3⟩
      rw [← aI_cI, ← aI_cI]
      show _ = some (Sum.inl (aI F j + dnZ (F j), nI (j + 1)), _)
      simp only [fX13_aboveDeed_b99, fX13_aboveDeed_j146, fX13_aboveDeed_j159, dnB_eval, g_289_7 rk.1, lx j k rk, hc, if_false, v_289 rk.1, t1, g_289_10 t2.1, at_r, t_297 t2.1, i1, i2, if_true, dnP, nI_1]
      cases F j
      · simp only [Bool.false_eq_true, if_false, dnB_eval, t_297 t2.1, i1, i2, if_true, dnP]
      · simp only [if_true, dnB_eval, t_297 t2.1, i1, i2, dnP]
    · rintro s k ⟨rfl, rk⟩
      exact ⟨_, k, by simp only [fX13_aboveDeed_b99, dnB_eval, g_289_7 rk.1, lx _ k rk, Int32.le_refl, if_true, dnP], rfl, rk⟩

theorem call_above {B : Nat} (hB : 16 ≤ B) (g p s : Int32) (v : Int64) (q : Int32) : Call B B (fX12_above (some 0) g p s v q) (fX13_above (some 289) g p s v q) :=
  callA (Nat.le_refl _) (fun h v h1 s1 s2 e => by simp only [fX12_above, dnB_eval, g_0_4 s1, v_259 s1, e, v_0 s2, tally_c s2, dnP]) (fun h v h1 s1 s2 e => by simp only [fX13_above, dnB_eval, v_289 s1, e, v_289 s2, said_r s2, dnP]) (step_above hB g p s v q)
