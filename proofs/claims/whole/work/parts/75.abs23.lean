/-! ABS 23: add -/
def adC (a : Nat) (c d : Cel) : Cel := if a = 6 then (c.1, c.2.1, FP.f2d (FP.fadd (FP.d2f c.2.2) (FP.d2f d.2.2))) else if a = 7 then (c.1, c.2.1, FP.dadd c.2.2 d.2.2) else (c.1, nrw a (c.2.1 + d.2.1), c.2.2)
theorem adC_ok {B a : Nat} {c : Cel} {v : Int64} (hB2 : B + 16 < 2 ^ 24) (ha : a < 8) (h : celOk B a c) : celOk (B + 16) a (adC a c (mkC a v)) := by
  obtain ⟨h1, h2, h3, h4⟩ := h
  have e := h3 ha
  have m := valOk_mk (show a < 12 by omega) v
  unfold adC
  by_cases q6 : a = 6
  · rw [if_pos q6]
    subst q6
    have f1 := (h4.2.2.2.2.2.1 e).fb
    have f2 := (m.2.2.2.2.2.1 rfl).fb
    refine ⟨h1, h2, h3, fun hc => ?_, fun hc => ?_, fun hc => ?_, fun _ => h4.2.2.2.1 (by rw [e]; decide), fun hc => ?_, fun _ => ⟨_, f1.add f2 (by omega), rfl⟩, fun hc => ?_⟩
    · dsimp only at hc; omega
    · dsimp only at hc; omega
    · dsimp only at hc; rw [e] at hc; cases hc
    · dsimp only at hc; omega
    · dsimp only at hc; omega
  · rw [if_neg q6]
    by_cases q7 : a = 7
    · rw [if_pos q7]
      subst q7
      have f1 := h4.2.2.2.2.2.2 e
      have f2 := m.2.2.2.2.2.2 rfl
      refine ⟨h1, h2, h3, fun hc => ?_, fun hc => ?_, fun hc => ?_, fun _ => h4.2.2.2.1 (by rw [e]; decide), fun hc => ?_, fun hc => ?_, fun _ => f1.add f2 (by omega)⟩
      · dsimp only at hc; omega
      · dsimp only at hc; omega
      · dsimp only at hc; rw [e] at hc; cases hc
      · dsimp only at hc; omega
      · dsimp only at hc; omega
    · rw [if_neg q7]
      have rl : isRlN a = false := by simp [isRlN, q6, q7]
      have z : c.2.2 = FP.dconst0 := h4.2.2.1 (by rw [e]; exact rl)
      have m2 := (valOk_mk (show a < 12 by omega) (c.2.1 + (mkC a v).2.1)).mono (show 16 ≤ B + 16 by omega)
      have e1 : mkN a (c.2.1 + (mkC a v).2.1) = nrw a (c.2.1 + (mkC a v).2.1) := by unfold mkN; rw [if_pos (by omega)]
      have e2 : mkD a (c.2.1 + (mkC a v).2.1) = FP.dconst0 := by unfold mkD; rw [if_neg q6, if_neg q7]
      rw [e1, e2] at m2
      refine ⟨h1, h2, h3, ?_⟩
      show valOk (B + 16) c.1 (nrw a (c.2.1 + (mkC a v).2.1)) c.2.2
      rw [e, z]
      exact m2
theorem xor01 {x y : Int64} (hx : x = 0 ∨ x = 1) (hy : y = 0 ∨ y = 1) : x ^^^ y = nrw 0 (x + y) := by
  rcases hx with rfl | rfl <;> rcases hy with rfl | rfl <;> decide
theorem adds_A {B : Nat} {h0 h : dnH} {X : List Nat} {A : Ab} {a : Nat} {c : Cel} {v : Int64} (hB2 : B + 16 < 2 ^ 24) (r : RS h0 X h A) (ha : a < 8) (hc : celOk B a c) (hx : hv h (mkC a v)) : ∃ h2, fX13_adds (some 289) (nI a) c.2.1 c.2.2 h = some ((), h2) ∧ RS h0 X h2 A ∧ hv h2 (adC a c (mkC a v)) := by
  obtain ⟨x1, x2, x3⟩ := hx
  obtain ⟨h1, h2, h3, h4⟩ := hc
  have e := h3 ha
  have m := valOk_mk (show a < 12 by omega) v
  have s6 : (nI a = 6) ↔ a = 6 := nI_eq (b := 6) (by omega) (by decide)
  have s7 : (nI a = 7) ↔ a = 7 := nI_eq (b := 7) (by omega) (by decide)
  have s0 : (nI a = 0) ↔ a = 0 := nI_eq (b := 0) (by omega) (by decide)
  have rD : ∀ y, RS h0 X (dnSD h 289 14 y) A := fun y => r.fr (eqc_SD (by unfold Pn; decide)) ⟨rfl, rfl, rfl, rfl, rfl⟩
  have vD : ∀ y, (dnSD h 289 14 y).2.2.2.1 289 14 = y := fun y => by simp [dnSD, dnUp]
  unfold adC
  by_cases q6 : a = 6
  · subst q6
    have f1 := (h4.2.2.2.2.2.1 e).fb
    have f2 := (m.2.2.2.2.2.1 rfl).fb
    have f2' : FB 16 (FP.d2f (mkC 6 v).2.2) := f2
    have f3 := f1.add f2' (by omega)
    refine ⟨dnSD h 289 14 (FP.f2d (FP.fadd (FP.d2f c.2.2) (FP.d2f (mkC 6 v).2.2))), ?_, rD _, ?_⟩
    · simp only [fX13_adds, s6, not_true_eq_false, if_false, n32_ok f1.ok, dnB_eval, dnP, g_289_14 r.1, x3, n32_ok f2'.ok, n32_ok f3.ok, n64_ok f3.d.ok, p_289_14 r.1]
    · rw [if_pos rfl]
      refine ⟨?_, ?_, vD _⟩
      · rw [e]; exact x1
      · rw [h4.2.2.2.1 (by rw [e]; decide)]
        exact x2.trans (m.2.2.2.1 (by decide))
  by_cases q7 : a = 7
  · subst q7
    have f1 := h4.2.2.2.2.2.2 e
    have f2 : DB 16 (mkC 7 v).2.2 := m.2.2.2.2.2.2 rfl
    have f3 := f1.add f2 (by omega)
    refine ⟨dnSD h 289 14 (FP.dadd c.2.2 (mkC 7 v).2.2), ?_, rD _, ?_⟩
    · simp only [fX13_adds, s6, s7, show ¬ (7 : Nat) = 6 by decide, not_false_eq_true, not_true_eq_false, if_true, if_false, dnB_eval, g_289_14 r.1, x3, n64_ok f3.ok, dnP, p_289_14 r.1]
    · rw [if_neg (by decide), if_pos rfl]
      refine ⟨?_, ?_, vD _⟩
      · rw [e]; exact x1
      · rw [h4.2.2.2.1 (by rw [e]; decide)]
        exact x2.trans (m.2.2.2.1 (by decide))
  have rl : isRlN a = false := by simp [isRlN, q6, q7]
  have z : c.2.2 = FP.dconst0 := h4.2.2.1 (by rw [e]; exact rl)
  have z2 : (mkC a v).2.2 = FP.dconst0 := m.2.2.1 rl
  rw [if_neg q6, if_neg q7]
  by_cases q0 : a = 0
  · subst q0
    have e9 : E9 h (dnSL h 289 13 (c.2.1 ^^^ (mkC 0 v).2.1)) := ⟨dnUp_neK (f := h.2.2.1) (a := 289) (k := 13) (x := 289) (y := 1) (v := c.2.1 ^^^ (mkC 0 v).2.1) (by decide), rfl, rfl, rfl, rfl⟩
    have rL : RS h0 X (dnSL h 289 13 (c.2.1 ^^^ (mkC 0 v).2.1)) A := r.fr (eqc_SL (by unfold Pn; decide)) e9
    refine ⟨dnSL h 289 13 (c.2.1 ^^^ (mkC 0 v).2.1), ?_, rL, ?_⟩
    · simp only [fX13_adds, s6, s7, s0, show ¬ (0 : Nat) = 6 by decide, show ¬ (0 : Nat) = 7 by decide, not_false_eq_true, not_true_eq_false, if_true, if_false, dnB_eval, g_289_13 r.1, x2, dnP, p_289_13 r.1]
    · refine ⟨?_, ?_, ?_⟩
      · rw [e]; exact x1
      · show dnUp h.2.2.1 289 13 _ 289 13 = nrw 0 (c.2.1 + (mkC 0 v).2.1)
        rw [dnUp_eq]
        exact xor01 (h4.2.1 e) (m.2.1 rfl)
      · show h.2.2.2.1 289 14 = c.2.2
        rw [x3, z, z2]
  · obtain ⟨h5, a1, r5, v5⟩ := makes_A r (show a < 12 by omega) (c.2.1 + (mkC a v).2.1)
    refine ⟨h5, ?_, r5, ?_⟩
    · simp only [fX13_adds, s6, s7, s0, q6, q7, q0, not_false_eq_true, if_true, dnB_eval, g_289_13 r.1, x2, v_289 r.1, a1, dnP]
    · obtain ⟨y1, y2, y3⟩ := v5
      refine ⟨?_, ?_, ?_⟩
      · rw [e]; exact y1
      · rw [y2]
        show mkN a _ = nrw a _
        unfold mkN
        rw [if_pos (by omega)]
      · rw [y3, z]
        show mkD a _ = _
        unfold mkD
        rw [if_neg q6, if_neg q7]
theorem step_add {B : Nat} (hB : 16 ≤ B) (hB2 : B + 16 < 2 ^ 24) (g p s x : Int32) : Step B (B + 16) (fX6_increase (some 259) g p s x) (fX13_addDeed (some 289) g p s x) := by
  intro A w
  have w16 := w.mono (show B ≤ B + 16 by omega)
  have ro : ∀ v : Int32, (∀ h0 h, CS h0 sp0 [] h A → fX6_increase (some 259) g p s x h = some (v, h)) → (∀ q0 q, RS q0 [] q A → fX13_addDeed (some 289) g p s x q = some (v, q)) → ∃ v A2, Wf (B + 16) [] A2 ∧ (∀ h0 h, CS h0 sp0 [] h A → ∃ h1, fX6_increase (some 259) g p s x h = some (v, h1) ∧ CS h0 sp0 [] h1 A2) ∧ ∀ q0 q, RS q0 [] q A → ∃ q1 Y, fX13_addDeed (some 289) g p s x q = some (v, q1) ∧ RS q0 Y q1 A2 := fun v kf kg => ⟨v, A, w16, fun h0 h c => ⟨h, kf h0 h c, c⟩, fun q0 q r => ⟨q, [], kg q0 q r, r⟩⟩
  cases hg : inB g 0 3
  · exact ro (-1) (fun h0 h c => by simp only [fX6_increase, hg, dnB_eval, c_isGrid, c_isKind, c_isSort, c_isPlain, r_isGrid, r_isKind, r_isSort, r_isPlain, r_in, dnP, Bool.false_eq_true, if_false, if_true]) (fun q0 q r => by simp only [fX13_addDeed, hg, dnB_eval, c_isGrid, c_isKind, c_isSort, c_isPlain, r_isGrid, r_isKind, r_isSort, r_isPlain, r_in, dnP, Bool.false_eq_true, if_false, if_true])
  cases hk : inB s 0 7
  · exact ro (-1) (fun h0 h c => by simp only [fX6_increase, hg, hk, dnB_eval, c_isGrid, c_isKind, c_isSort, c_isPlain, r_isGrid, r_isKind, r_isSort, r_isPlain, r_in, dnP, Bool.false_eq_true, if_false, if_true]) (fun q0 q r => by simp only [fX13_addDeed, hg, hk, dnB_eval, c_isGrid, c_isKind, c_isSort, c_isPlain, r_isGrid, r_isKind, r_isSort, r_isPlain, r_in, dnP, Bool.false_eq_true, if_false, if_true])
  obtain ⟨a, ha, rfl⟩ := inB_of (n := 7) (by decide) hk
  have ha : a < 8 := by omega
  rcases lookR w g p with ⟨f, f0, -, f2, f3⟩ | ⟨G, P, m, r, hG, hP, hm, hr, rfl, rfl, e1, e2, -, hl, -, hrw, l1, l2⟩
  · obtain ⟨n1, n2⟩ := neg_fault f0
    exact ro f (fun h0 h c => by simp only [fX6_increase, hg, hk, g_259_0 c.1, sv (st1 c.1), (f2 h0 _ _ h c).1, (f2 h0 _ _ h c).2, Option.elim, dnB_eval, c_isGrid, c_isKind, c_isSort, c_isPlain, r_isGrid, r_isKind, r_isSort, r_isPlain, r_in, dnP, Bool.false_eq_true, if_false, if_true]) (fun q0 q r => by simp only [fX13_addDeed, hg, hk, v_289 r.1, f3 hg q0 _ q r, n1, dnB_eval, c_isGrid, c_isKind, c_isSort, c_isPlain, r_isGrid, r_isKind, r_isSort, r_isPlain, r_in, dnP, Bool.false_eq_true, if_false, if_true])
  have N1 := hrw.2.1
  have le0 : (nI (A.2.2.1 r).2.1 ≤ 0) ↔ (A.2.2.1 r).2.1 = 0 := by rw [show (0 : Int32) = nI 0 from rfl, nI_leI (by omega) (by decide)]; omega
  have hk12 := hrw.1
  have keq : (nI (A.2.2.1 r).1 = nI a) ↔ (A.2.2.1 r).1 = a := nI_eq (by omega) (by omega)
  by_cases hrd : (A.2.2.1 r).2.1 = 0 ∨ (A.2.2.1 r).1 = a
  case neg =>
    have y1 : ¬ (A.2.2.1 r).2.1 = 0 := fun hc => hrd (.inl hc)
    have y2 : ¬ (A.2.2.1 r).1 = a := fun hc => hrd (.inr hc)
    exact ro (-7) (fun h0 h c => by simp only [fX6_increase, hg, hk, g_259_0 c.1, sv (st1 c.1), l1 h0 _ _ h c, Option.elim, rg_i (row1 c.1 hr), (c.row hr hl).2.1, (c.row hr hl).1, le0, y1, keq, y2, dnB_eval, c_isGrid, c_isKind, c_isSort, c_isPlain, r_isGrid, r_isKind, r_isSort, r_isPlain, r_in, dnP, Bool.false_eq_true, if_false, if_true]) (fun q0 k r' => by simp only [fX13_addDeed, hg, hk, v_289 r'.1, (l2 q0 _ k r').1, (l2 q0 _ k r').2, g_289_7 r'.1, g_289_6 r'.1, len_A r' hr hl, kind_A r' hr hl, le0, y1, keq, y2, dnB_eval, c_isGrid, c_isKind, c_isSort, c_isPlain, r_isGrid, r_isKind, r_isSort, r_isPlain, r_in, dnP, Bool.false_eq_true, if_false, if_true])
  have dcls : ∀ h0 h, CS h0 sp0 [] h A → ∀ y, fX6_increase_j62 (some 259) (nI a) x (some (5 + 4 * r)) h = y → fX6_increase (some 259) (nI G) (nI P) (nI a) x h = y := fun h0 h c y hy => by
    rw [← hy]
    by_cases y1 : (A.2.2.1 r).2.1 = 0
    · have z := le0.mpr y1
      simp only [fX6_increase, hg, hk, g_259_0 c.1, sv (st1 c.1), l1 h0 _ _ h c, Option.elim, rg_i (row1 c.1 hr), (c.row hr hl).2.1, z, dnB_eval, c_isGrid, c_isKind, c_isSort, c_isPlain, r_isGrid, r_isKind, r_isSort, r_isPlain, r_in, dnP, Bool.false_eq_true, if_false, if_true]
    · have y2 := hrd.resolve_left y1
      simp only [fX6_increase, hg, hk, g_259_0 c.1, sv (st1 c.1), l1 h0 _ _ h c, Option.elim, rg_i (row1 c.1 hr), (c.row hr hl).2.1, (c.row hr hl).1, le0, y1, keq.mpr y2, dnB_eval, c_isGrid, c_isKind, c_isSort, c_isPlain, r_isGrid, r_isKind, r_isSort, r_isPlain, r_in, dnP, Bool.false_eq_true, if_false, if_true]
  have dref : ∀ q0 k, RS q0 [] k A → ∀ y, fX13_addDeed_j64 (some 289) (nI a) x (nI r) k = y → fX13_addDeed (some 289) (nI G) (nI P) (nI a) x k = y := fun q0 k r' y hy => by
    rw [← hy]
    by_cases y1 : (A.2.2.1 r).2.1 = 0
    · have z := le0.mpr y1
      simp only [fX13_addDeed, hg, hk, v_289 r'.1, (l2 q0 _ k r').1, (l2 q0 _ k r').2, g_289_7 r'.1, len_A r' hr hl, z, dnB_eval, c_isGrid, c_isKind, c_isSort, c_isPlain, r_isGrid, r_isKind, r_isSort, r_isPlain, r_in, dnP, Bool.false_eq_true, if_false, if_true]
    · have y2 := hrd.resolve_left y1
      simp only [fX13_addDeed, hg, hk, v_289 r'.1, (l2 q0 _ k r').1, (l2 q0 _ k r').2, g_289_7 r'.1, g_289_6 r'.1, len_A r' hr hl, kind_A r' hr hl, le0, y1, keq.mpr y2, dnB_eval, c_isGrid, c_isKind, c_isSort, c_isPlain, r_isGrid, r_isKind, r_isSort, r_isPlain, r_in, dnP, Bool.false_eq_true, if_false, if_true]
  let f : Nat → Cel := fun i => adC a ((A.2.2.1 r).2.2 i) (mkC a x.toInt64)
  let D : Nat → Rw := fun j => fillR (A.2.2.1 r) 0 j f
  have hcel : ∀ i, i < (A.2.2.1 r).2.1 → celOk B a ((A.2.2.1 r).2.2 i) ∧ (A.2.2.1 r).1 = a := fun i hi => by
    have y2 : (A.2.2.1 r).1 = a := by
      rcases hrd with y | y
      · omega
      · exact y
    refine ⟨?_, y2⟩
    have := hrw.2.2 i (by omega)
    rw [y2] at this
    exact this
  have Dc : ∀ j, (D j).2.2 j = (A.2.2.1 r).2.2 j := fun j => by
    show (if 0 ≤ j ∧ j < 0 + j then _ else _) = _
    rw [if_neg (by omega)]
  have Ds : ∀ j, D (j + 1) = setC (D j) j (f j) := fun j => by
    show fillR _ 0 (j + 1) _ = setC (fillR _ 0 j _) j _
    rw [fillR_s, Nat.zero_add]
  have okD : rwOk (B + 16) (D (A.2.2.1 r).2.1) := rwOk_fill (hrw.mono (by omega)) (fun k hk => by
    rw [(hcel k hk).2]
    exact adC_ok hB2 ha (hcel k hk).1)
  have s6 : (nI a = 6) ↔ a = 6 := nI_eq (b := 6) (by omega) (by decide)
  have s7 : (nI a = 7) ↔ a = 7 := nI_eq (b := 7) (by omega) (by decide)
  have mk := valOk_mk (show a < 12 by omega) x.toInt64
  refine ⟨nI (A.2.2.1 r).2.1, setR A r (D (A.2.2.1 r).2.1), w16.setR (fun m hm => .inr hm) okD, fun h0 h c => ?_, fun q0 k r' => ?_⟩
  · obtain ⟨h1, a1, a2, a3⟩ := become_A (rw260 c.1) (show a < 12 by omega) x.toInt64
    have c1 := c.hand (by decide) (by decide) a2
    have KK := it_inv (f := fX6_increase_b76 (some 259) (nI a) (some (5 + 4 * r))) (Q := fun _ k => CS h0 sp0 [] k (setR A r (D (A.2.2.1 r).2.1))) (fun j s k => s = nI j ∧ CS h0 sp0 [] k (setR A r (D j)) ∧ RwH k 260 (setC (newR 8 1) 0 (mkC a x.toInt64))) (A.2.2.1 r).2.1 1000 0 (by omega) (by omega) ?_ ?_ (nI 0) h1 ⟨rfl, by rw [show D 0 = A.2.2.1 r from fillR_0, setR_self]; exact c1, a3⟩
    · obtain ⟨_, h2, b1, c2⟩ := KK
      rw [nI_0] at b1
      have rr := c2.row hr hl
      rw [setR_at] at rr
      have lr : h2.2.1 (5 + 4 * r) 2 = nI (A.2.2.1 r).2.1 := rr.2.1
      exact ⟨h2, dcls h0 h c _ (by simp only [fX6_increase_j62, dnB_eval, g_259_2 c.1, rv (rw260 c.1), a1, b1, rg_i (row1 c2.1 hr), lr, dnP]), c2⟩
    · rintro j s k hj ⟨rfl, ck, hk⟩
      left
      have hc : ¬ (nI (A.2.2.1 r).2.1 ≤ nI j) := fun hc => by have := (nI_leI (a := (A.2.2.1 r).2.1) (b := j) (by omega) (by omega)).mp hc; omega
      have rr := ck.row hr hl
      rw [setR_at] at rr
      have lr : k.2.1 (5 + 4 * r) 2 = nI (A.2.2.1 r).2.1 := rr.2.1
      have cj := rr.2.2 j (by omega)
      rw [Dc j] at cj
      obtain ⟨cj1, cj2, cj3⟩ := cj
      obtain ⟨⟨o1, o2, o3, o4⟩, ok⟩ := hcel j hj
      have es := o3 ha
      have hk0 := hk.2.2 0 (by decide)
      have hk0 : k.2.1 (260 + 1) 0 = nI a ∧ k.2.2.1 (260 + 2) 0 = (mkC a x.toInt64).2.1 ∧ k.2.2.2.1 (260 + 3) 0 = (mkC a x.toInt64).2.2 := hk0
      have i1 := dnIn_nI (show j < 12 by omega) (by decide)
      have i2 : (nI j).toNatClampNeg = j := nI_clamp (by omega)
      have z1 : dnIn 0 12 = true := by decide
      have z2 : (0 : Int32).toNatClampNeg = 0 := by decide
      have done : ∀ k2, EqR (5 + 4 * r) k k2 → RwH k2 (5 + 4 * r) (D (j + 1)) → CS h0 sp0 [] k2 (setR A r (D (j + 1))) ∧ RwH k2 260 (setC (newR 8 1) 0 (mkC a x.toInt64)) := fun k2 y1 y2 => by
        have c5 := ck.setRow (Y := []) hr (fun m hm => .inr hm) y1 y2
        rw [setR_setR] at c5
        exact ⟨c5, y1.row (by omega) hk⟩
      by_cases q6 : a = 6
      · have f1 := (o4.2.2.2.2.2.1 (by rw [es, q6])).fb
        have f2 : FB 16 (FP.d2f (mkC a x.toInt64).2.2) := (mk.2.2.2.2.2.1 q6).fb
        have f3 := f1.add f2 (by omega)
        have rl : isRlN a = true := by rw [q6]; decide
        have t1 := floatAt_c (row1 ck.1 hr) (show j < 12 by omega) cj1 o1 (fun _ => by rw [cj3]; exact f1.ok)
        have t2 := floatAt_c (i := 0) (rw260 ck.1) (by decide) hk0.1 (show a < 12 by omega) (fun _ => by rw [hk0.2.2]; exact f2.ok)
        rw [cj2, cj3, es, rl, if_pos rfl] at t1
        rw [hk0.2.1, hk0.2.2, rl, if_pos rfl, nI_0] at t2
        obtain ⟨y1, y2⟩ := wd_A (v := FP.f2d (FP.fadd (FP.d2f ((A.2.2.1 r).2.2 j).2.2) (FP.d2f (mkC a x.toInt64).2.2))) rr (show j < 12 by omega)
        rw [Dc j] at y2
        have ef : f j = (((A.2.2.1 r).2.2 j).1, ((A.2.2.1 r).2.2 j).2.1, FP.f2d (FP.fadd (FP.d2f ((A.2.2.1 r).2.2 j).2.2) (FP.d2f (mkC a x.toInt64).2.2))) := by
          show adC a _ _ = _
          unfold adC
          rw [if_pos q6]
        rw [← ef, ← Ds j] at y2
        obtain ⟨d1, d2⟩ := done _ y1 y2
        refine ⟨nI (j + 1), _, ?_, rfl, d1, d2⟩
        simp only [fX6_increase_b76, fX6_increase_j185, dnB_eval, rg_i (row1 ck.1 hr), lr, hc, if_false, s6.mpr q6, not_true_eq_false, rg_5 (row1 ck.1 hr), rv (row1 ck.1 hr), t1, g_259_2 ck.1, rv (rw260 ck.1), t2, n32_ok f3.ok, n64_ok f3.d.ok, rt_3 (row1 ck.1 hr), i1, i2, if_true, dnP, nI_1]
      by_cases q7 : a = 7
      · have f1 := o4.2.2.2.2.2.2 (by rw [es, q7])
        have f2 : DB 16 (mkC a x.toInt64).2.2 := mk.2.2.2.2.2.2 q7
        have f3 := f1.add f2 (by omega)
        obtain ⟨y1, y2⟩ := wd_A (v := FP.dadd ((A.2.2.1 r).2.2 j).2.2 (mkC a x.toInt64).2.2) rr (show j < 12 by omega)
        rw [Dc j] at y2
        have ef : f j = (((A.2.2.1 r).2.2 j).1, ((A.2.2.1 r).2.2 j).2.1, FP.dadd ((A.2.2.1 r).2.2 j).2.2 (mkC a x.toInt64).2.2) := by
          show adC a _ _ = _
          unfold adC
          rw [if_neg q6, if_pos q7]
        rw [← ef, ← Ds j] at y2
        obtain ⟨d1, d2⟩ := done _ y1 y2
        refine ⟨nI (j + 1), _, ?_, rfl, d1, d2⟩
        have n6 : ¬ nI a = 6 := fun hc => q6 (s6.mp hc)
        simp only [fX6_increase_b76, fX6_increase_j185, dnB_eval, rg_i (row1 ck.1 hr), lr, hc, if_false, n6, s7.mpr q7, show ¬ (7 : Int32) = 6 by decide, not_true_eq_false, not_false_eq_true, if_true, rg_5 (row1 ck.1 hr), ra_3 (row1 ck.1 hr), i1, i2, cj3, g_259_2 ck.1, rg_5 (rw260 ck.1), ra_3 (rw260 ck.1), z1, z2, hk0.2.2, n64_ok f3.ok, rt_3 (row1 ck.1 hr), dnP, nI_1]
      · obtain ⟨y1, y2⟩ := wl_A (v := nrw a (((A.2.2.1 r).2.2 j).2.1 + (mkC a x.toInt64).2.1)) rr (show j < 12 by omega)
        rw [Dc j] at y2
        have ef : f j = (((A.2.2.1 r).2.2 j).1, nrw a (((A.2.2.1 r).2.2 j).2.1 + (mkC a x.toInt64).2.1), ((A.2.2.1 r).2.2 j).2.2) := by
          show adC a _ _ = _
          unfold adC
          rw [if_neg q6, if_neg q7]
        rw [← ef, ← Ds j] at y2
        obtain ⟨d1, d2⟩ := done _ y1 y2
        refine ⟨nI (j + 1), _, ?_, rfl, d1, d2⟩
        have n6 : ¬ nI a = 6 := fun hc => q6 (s6.mp hc)
        have n7 : ¬ nI a = 7 := fun hc => q7 (s7.mp hc)
        simp only [fX6_increase_b76, fX6_increase_j185, dnB_eval, rg_i (row1 ck.1 hr), lr, hc, if_false, n6, n7, not_false_eq_true, if_true, rg_4 (row1 ck.1 hr), ra_2 (row1 ck.1 hr), i1, i2, cj2, g_259_2 ck.1, rg_4 (rw260 ck.1), ra_2 (rw260 ck.1), z1, z2, hk0.2.1, narrowed_c (show a < 12 by omega), rt_2 (row1 ck.1 hr), dnP, nI_1]
    · rintro s k ⟨rfl, ck, hk⟩
      have rr := ck.row hr hl
      rw [setR_at] at rr
      have lr : k.2.1 (5 + 4 * r) 2 = nI (A.2.2.1 r).2.1 := rr.2.1
      exact ⟨(), k, by simp only [fX6_increase_b76, dnB_eval, rg_i (row1 ck.1 hr), lr, Int32.le_refl, if_true, dnP], ck⟩
  · have lx : ∀ j k, RS q0 [] k (setR A r (D j)) → dnAI (some 294) 100 (nI r) k = some (nI (A.2.2.1 r).2.1, k) := fun j k rk => by
      have := len_A rk hr hl
      rw [setR_at] at this
      exact this
    have KK := it_inv (f := fX13_addDeed_b67 (some 289) (nI a) x (nI r)) (Q := fun _ k => RS q0 [] k (setR A r (D (A.2.2.1 r).2.1))) (fun j s k => s = nI j ∧ RS q0 [] k (setR A r (D j))) (A.2.2.1 r).2.1 1000 0 (by omega) (by omega) ?_ ?_ (nI 0) k ⟨rfl, by rw [show D 0 = A.2.2.1 r from fillR_0, setR_self]; exact r'⟩
    · obtain ⟨_, k4, b1, r2⟩ := KK
      rw [nI_0] at b1
      exact ⟨k4, _, dref q0 k r' _ (by simp only [fX13_addDeed_j64, dnB_eval, b1, g_289_7 r2.1, lx _ k4 r2, dnP]), r2⟩
    · rintro j s k hj ⟨rfl, rk⟩
      left
      have hc : ¬ (nI (A.2.2.1 r).2.1 ≤ nI j) := fun hc => by have := (nI_leI (a := (A.2.2.1 r).2.1) (b := j) (by omega) (by omega)).mp hc; omega
      obtain ⟨k1, t1, r1, v1⟩ := makes_A rk (show a < 12 by omega) x.toInt64
      have nm := num_A r1 hr hl (show j < 12 by omega)
      have re := rea_A r1 hr hl (show j < 12 by omega)
      rw [setR_at, Dc j] at nm re
      obtain ⟨k3, t2, r3, v3⟩ := adds_A hB2 r1 ha (hcel j hj).1 v1
      obtain ⟨k4, t3, r4, v4⟩ := lays_A r3 v3 hr hl (show j < 12 by omega)
      rw [setR_at, setR_setR] at r4
      have r4 : RS q0 [] k4 (setR A r (setC (D j) j (f j))) := r4
      rw [← Ds j] at r4
      refine ⟨nI (j + 1), k4, ?_, rfl, r4⟩
      simp only [fX13_addDeed_b67, dnB_eval, g_289_7 rk.1, lx j k rk, hc, if_false, v_289 rk.1, t1, g_289_10 r1.1, g_289_11 r1.1, at_r, nm, re, v_289 r1.1, t2, v_289 r3.1, t3, dnP, nI_1]
    · rintro s k ⟨rfl, rk⟩
      exact ⟨(), k, by simp only [fX13_addDeed_b67, dnB_eval, g_289_7 rk.1, lx _ k rk, Int32.le_refl, if_true, dnP], rk⟩

theorem call_add {B : Nat} (hB : 16 ≤ B) (hB2 : B + 16 < 2 ^ 24) (g p s x : Int32) : Call B (B + 16) (fX12_add (some 0) g p s x) (fX13_add (some 289) g p s x) :=
  callA (by omega) (fun h v h1 s1 s2 e => by simp only [fX12_add, dnB_eval, g_0_4 s1, v_259 s1, e, v_0 s2, tally_c s2, dnP]) (fun h v h1 s1 s2 e => by simp only [fX13_add, dnB_eval, v_289 s1, e, v_289 s2, said_r s2, dnP]) (step_add hB hB2 g p s x)
