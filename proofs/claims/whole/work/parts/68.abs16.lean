/-! ABS 16: join -/
theorem nI_or (s t : Nat) : nI s ||| nI t = nI (s ||| t) := by
  apply Int32.toBitVec_inj.mp
  show BitVec.ofNat 32 s ||| BitVec.ofNat 32 t = BitVec.ofNat 32 (s ||| t)
  exact (BitVec.ofNat_or).symm
theorem bit_nI {k : Nat} (hk : k < 12) : (1 : Int32) <<< (nI k &&& 31) = nI (2 ^ k) := (by decide +kernel : ∀ k, k < 12 → (1 : Int32) <<< (nI k &&& 31) = nI (2 ^ k)) k hk
theorem or_lt {s k : Nat} (hs : s < 4096) (hk : k < 12) : s ||| 2 ^ k < 4096 := Nat.or_lt_two_pow (n := 12) hs (Nat.pow_lt_pow_right (by decide) hk)
theorem fill_two {R : Rw} {a b : Nat} {f1 f2 f : Nat → Cel} (h1 : ∀ k, k < a → f k = f1 k) (h2 : ∀ k, k < b → f (a + k) = f2 k) : fillR (fillR R 0 a f1) a b f2 = fillR R 0 (a + b) f := by
  unfold fillR
  have : (fun j => if a ≤ j ∧ j < a + b then f2 (j - a) else if 0 ≤ j ∧ j < 0 + a then f1 (j - 0) else R.2.2 j) = (fun j => if 0 ≤ j ∧ j < 0 + (a + b) then f (j - 0) else R.2.2 j) := by
    funext j
    by_cases q1 : a ≤ j ∧ j < a + b
    · rw [if_pos q1, if_pos (by omega), ← h2 (j - a) (by omega), show a + (j - a) = j - 0 by omega]
    · rw [if_neg q1]
      by_cases q2 : 0 ≤ j ∧ j < 0 + a
      · rw [if_pos q2, if_pos (by omega), ← h1 (j - 0) (by omega)]
      · rw [if_neg q2, if_neg (by omega)]
  dsimp only
  rw [this]
theorem step_join {B : Nat} (hB : 16 ≤ B) (g p p2 : Int32) : Step B B (fX6_joinRows (some 259) g p p2) (fX13_joinDeed (some 289) g p p2) := by
  intro A w
  cases hg : inB g 0 3
  · rcases lookR w g p with ⟨f, f0, f1, f2, f3⟩ | ⟨G, P, m, r, hG, hP, hm, hr, rfl, rfl, e1, e2, hb, _⟩
    · rw [f1 hg] at f2
      exact step_ro (-1) w (fun h0 h c => by simp only [fX6_joinRows, hg, g_259_0 c.1, sv (st1 c.1), (f2 h0 _ _ h c).1, (f2 h0 _ _ h c).2, Option.elim, dnB_eval, c_isGrid, c_isKind, c_isSort, c_isPlain, r_isGrid, r_isKind, r_isSort, r_isPlain, r_in, dnP, Bool.false_eq_true, if_false, if_true]) (fun q0 q r => by simp only [fX13_joinDeed, hg, dnB_eval, c_isGrid, c_isKind, c_isSort, c_isPlain, r_isGrid, r_isKind, r_isSort, r_isPlain, r_in, dnP, Bool.false_eq_true, if_false, if_true])
    · rw [hg] at hb
      cases hb
  rcases lookR w g p with ⟨f, f0, -, f2, f3⟩ | ⟨G, P, m, r, hG, hP, hm, hr, rfl, rfl, e1, e2, -, hl, -, hrw, l1, l2⟩
  · obtain ⟨n1, n2⟩ := neg_fault f0
    exact step_ro f w (fun h0 h c => by simp only [fX6_joinRows, g_259_0 c.1, sv (st1 c.1), (f2 h0 _ _ h c).1, (f2 h0 _ _ h c).2, Option.elim, dnB_eval, c_isGrid, c_isKind, c_isSort, c_isPlain, r_isGrid, r_isKind, r_isSort, r_isPlain, r_in, dnP, Bool.false_eq_true, if_false, if_true]) (fun q0 q r => by simp only [fX13_joinDeed, fX13_twoRows, hg, v_289 r.1, f3 hg q0 _ q r, n1, dnB_eval, c_isGrid, c_isKind, c_isSort, c_isPlain, r_isGrid, r_isKind, r_isSort, r_isPlain, r_in, dnP, Bool.false_eq_true, if_false, if_true])
  rcases lookR w (nI G) p2 with ⟨f, f0, -, f2, f3⟩ | ⟨G2, P2, m2, t, hG2, hP2, hm2, ht, -, rfl, e12, e22, -, hlt, -, htw, k1, k2⟩
  · obtain ⟨n1, n2⟩ := neg_fault f0
    exact step_ro f w (fun h0 h c => by simp only [fX6_joinRows, g_259_0 c.1, sv (st1 c.1), l1 h0 _ _ h c, (f2 h0 _ _ h c).1, (f2 h0 _ _ h c).2, Option.elim, dnB_eval, c_isGrid, c_isKind, c_isSort, c_isPlain, r_isGrid, r_isKind, r_isSort, r_isPlain, r_in, dnP, Bool.false_eq_true, if_false, if_true]) (fun q0 q r => by simp only [fX13_joinDeed, fX13_twoRows, hg, v_289 r.1, (l2 q0 _ q r).1, f3 hg q0 _ q r, n1, dnB_eval, c_isGrid, c_isKind, c_isSort, c_isPlain, r_isGrid, r_isKind, r_isSort, r_isPlain, r_in, dnP, Bool.false_eq_true, if_false, if_true])
  have N1 := hrw.2.1
  have N2 := htw.2.1
  have g12 : (nI (A.2.2.1 r).2.1 + nI (A.2.2.1 t).2.1 ≤ 12) ↔ (A.2.2.1 r).2.1 + (A.2.2.1 t).2.1 ≤ 12 := by rw [nI_add]; exact nI_leI (b := 12) (by omega) (by decide)
  have g13 : (nI ((A.2.2.1 r).2.1 + (A.2.2.1 t).2.1) ≤ 12) ↔ (A.2.2.1 r).2.1 + (A.2.2.1 t).2.1 ≤ 12 := nI_leI (b := 12) (by omega) (by decide)
  by_cases hF : (A.2.2.1 r).2.1 + (A.2.2.1 t).2.1 ≤ 12
  case neg => exact step_ro (-10) w (fun h0 h c => by simp only [fX6_joinRows, g_259_0 c.1, sv (st1 c.1), l1 h0 _ _ h c, k1 h0 _ _ h c, Option.elim, rg_i (row1 c.1 hr), rg_i (row1 c.1 ht), (c.row hr hl).2.1, (c.row ht hlt).2.1, g12, hF, dnB_eval, c_isGrid, c_isKind, c_isSort, c_isPlain, r_isGrid, r_isKind, r_isSort, r_isPlain, r_in, dnP, Bool.false_eq_true, if_false, if_true]) (fun q0 k r' => by simp only [fX13_joinDeed, fX13_twoRows, hg, v_289 r'.1, (l2 q0 _ k r').1, (l2 q0 _ k r').2, (k2 q0 _ k r').1, (k2 q0 _ k r').2, g_289_7 r'.1, len_A r' hr hl, len_A r' ht hlt, g12, hF, dnB_eval, c_isGrid, c_isKind, c_isSort, c_isPlain, r_isGrid, r_isKind, r_isSort, r_isPlain, r_in, dnP, Bool.false_eq_true, if_false, if_true])
  have hset : (2 ^ (A.2.2.1 r).1 ||| 2 ^ (A.2.2.1 t).1) < 4096 := or_lt (Nat.pow_lt_pow_right (n := 12) (by decide) hrw.1) htw.1
  have eset : ((1 : Int32) <<< (nI (A.2.2.1 r).1 &&& 31)) ||| (1 <<< (nI (A.2.2.1 t).1 &&& 31)) = nI (2 ^ (A.2.2.1 r).1 ||| 2 ^ (A.2.2.1 t).1) := by rw [bit_nI hrw.1, bit_nI htw.1, nI_or]
  have tr : ∀ i, i < 12 → tk (lkd (2 ^ (A.2.2.1 r).1 ||| 2 ^ (A.2.2.1 t).1)) ((A.2.2.1 r).2.2 i).1 = true := fun i hi => lkd_tk (a := (A.2.2.1 r).1) (by rw [Nat.testBit_or, Nat.testBit_two_pow_self]; rfl) (hrw.2.2 i hi).1 (hrw.2.2 i hi).2.1 (hrw.2.2 i hi).2.2.1
  have tt : ∀ i, i < 12 → tk (lkd (2 ^ (A.2.2.1 r).1 ||| 2 ^ (A.2.2.1 t).1)) ((A.2.2.1 t).2.2 i).1 = true := fun i hi => lkd_tk (a := (A.2.2.1 t).1) (by rw [Nat.testBit_or, Nat.testBit_two_pow_self, Bool.or_true]) (htw.2.2 i hi).1 (htw.2.2 i hi).2.1 (htw.2.2 i hi).2.2.1
  have hK := lkd_lt (2 ^ (A.2.2.1 r).1 ||| 2 ^ (A.2.2.1 t).1)
  have lC := leastC hset
  have lR := leastR hset
  generalize lkd (2 ^ (A.2.2.1 r).1 ||| 2 ^ (A.2.2.1 t).1) = K at tr tt hK lC lR
  obtain ⟨x, hx⟩ := exFr (X := []) A (by decide)
  have hx1 := hx.1
  have hrx : r ≠ x := fun e => hx.2.1 (e ▸ hl)
  have htx : t ≠ x := fun e => hx.2.1 (e ▸ hlt)
  have hlx : live [x] A x := .inl (List.mem_singleton.mpr rfl)
  have hlr : live [x] A r := live_mono subN hl
  have hlt' : live [x] A t := live_mono subN hlt
  have hnew := rwOk_new (B := B) (kd := K) (n := (A.2.2.1 r).2.1 + (A.2.2.1 t).2.1) hB hK hF
  let f : Nat → Cel := fun k => if k < (A.2.2.1 r).2.1 then cvt K ((A.2.2.1 r).2.2 k) else cvt K ((A.2.2.1 t).2.2 (k - (A.2.2.1 r).2.1))
  have hfo : ∀ k, k < (A.2.2.1 r).2.1 + (A.2.2.1 t).2.1 → celOk B K (f k) := fun k hk => by
    show celOk B K (if k < (A.2.2.1 r).2.1 then _ else _)
    split
    · exact celOk_cvt hB hK (hrw.2.2 k (by omega)).1 (tr k (by omega)) (hrw.2.2 k (by omega)).2.2.2
    · exact celOk_cvt hB hK (htw.2.2 _ (by omega)).1 (tt _ (by omega)) (htw.2.2 _ (by omega)).2.2.2
  refine ⟨nI ((A.2.2.1 r).2.1 + (A.2.2.1 t).2.1), setH (setR A x (fillR (newR K ((A.2.2.1 r).2.1 + (A.2.2.1 t).2.1)) 0 ((A.2.2.1 r).2.1 + (A.2.2.1 t).2.1) f)) (6 * G + P) (nI x), wf_new w hx1 (rwOk_fill hnew hfo) hG hm hP e1, fun h0 h c => ?_, fun q0 k r' => ?_⟩
  · obtain ⟨h1, a1, c1⟩ := freshRow_A (kd := K) (ln := (A.2.2.1 r).2.1 + (A.2.2.1 t).2.1) c spX_0 hx hK
    have rr := c1.row hr hlr
    rw [setR_ne hrx] at rr
    have rt := c1.row ht hlt'
    rw [setR_ne htx] at rt
    have rx := c1.row hx1 hlx
    rw [setR_at] at rx
    obtain ⟨h2, b1, b2, b3⟩ := append_H (B := B) (a := 0) (i := 0) (n := (A.2.2.1 r).2.1) (row1 c1.1 hx1) (row1 c1.1 hr) rx rr (by omega) hnew (by omega) (by omega) (fun k hk => by
      rw [Nat.zero_add]
      exact ⟨(hrw.2.2 k (by omega)).1, tr k (by omega), (hrw.2.2 k (by omega)).2.2.2⟩)
    rw [nI_0] at b1
    have c2 := c1.setRow (Y := [x]) hx1 (fun m hm => .inr hm) b2 b3
    rw [setR_setR] at c2
    have rt2 := c2.row ht hlt'
    rw [setR_ne htx] at rt2
    have rr2 := c2.row hr hlr
    rw [setR_ne hrx] at rr2
    have rx2 := c2.row hx1 hlx
    rw [setR_at] at rx2
    have ok2 : rwOk B (fillR (newR K ((A.2.2.1 r).2.1 + (A.2.2.1 t).2.1)) 0 (A.2.2.1 r).2.1 (fun k => cvt (newR K ((A.2.2.1 r).2.1 + (A.2.2.1 t).2.1)).1 ((A.2.2.1 r).2.2 (0 + k)))) := rwOk_fill hnew (fun k hk => by
      rw [Nat.zero_add]
      exact celOk_cvt hB hK (hrw.2.2 k (by omega)).1 (tr k (by omega)) (hrw.2.2 k (by omega)).2.2.2)
    obtain ⟨h3, d1, d2, d3⟩ := append_H (B := B) (a := (A.2.2.1 r).2.1) (i := 0) (n := (A.2.2.1 t).2.1) (row1 c2.1 hx1) (row1 c2.1 ht) rx2 rt2 (by omega) ok2 (by omega) (by omega) (fun k hk => by
      rw [Nat.zero_add]
      exact ⟨(htw.2.2 k (by omega)).1, tt k (by omega), (htw.2.2 k (by omega)).2.2.2⟩)
    rw [nI_0] at d1
    have c3 := c2.setRow (Y := [x]) hx1 (fun m hm => .inr hm) d2 d3
    rw [setR_setR, fill_two (f := f) (fun k hk => by
      show (if k < (A.2.2.1 r).2.1 then _ else _) = _
      rw [if_pos hk, Nat.zero_add]
      rfl) (fun k hk => by
      show (if (A.2.2.1 r).2.1 + k < (A.2.2.1 r).2.1 then _ else _) = _
      rw [if_neg (by omega), Nat.zero_add, show (A.2.2.1 r).2.1 + k - (A.2.2.1 r).2.1 = k by omega]
      rfl)] at c3
    have rx3 := c3.row hx1 hlx
    rw [setR_at] at rx3
    obtain ⟨z1, c4⟩ := place_A (q := P) c3 hG (by omega) hx1 hlx
    have e9 : (dnSI h3 3 (6 * G + P) (nI x)).2.1 (5 + 4 * x) 2 = nI ((A.2.2.1 r).2.1 + (A.2.2.1 t).2.1) := by
      show dnUp h3.2.1 3 (6 * G + P) (nI x) (5 + 4 * x) 2 = _
      rw [dnUp_neA (by omega)]
      exact rx3.2.1
    refine ⟨_, ?_, c4.sub subN⟩
    simp only [fX6_joinRows, g_259_0 c.1, sv (st1 c.1), l1 h0 _ _ h c, k1 h0 _ _ h c, Option.elim, rg_i (row1 c.1 hr), rg_i (row1 c.1 ht), (c.row hr hl).2.1, (c.row ht hlt).2.1, (c.row hr hl).1, (c.row ht hlt).1, g13, hF, eset, lC, nI_add, a1, rg_i (row1 c1.1 hr), rr.2.1, b1, rg_i (row1 c2.1 hr), rg_i (row1 c2.1 ht), rr2.2.1, rt2.2.1, d1, g_259_0 c3.1, sv (st1 c3.1), z1, rg_i (row1 c4.1 hx1), e9, dnB_eval, c_isGrid, c_isKind, c_isSort, c_isPlain, r_isGrid, r_isKind, r_isSort, r_isPlain, r_in, dnP, Bool.false_eq_true, if_false, if_true]
  · obtain ⟨k3, a1, r1⟩ := newRow_A (kd := K) (ln := (A.2.2.1 r).2.1 + (A.2.2.1 t).2.1) r' w.2.1 hx hK
    have lx : ∀ j k, RS q0 [x] k (setR A x (fillR (newR K ((A.2.2.1 r).2.1 + (A.2.2.1 t).2.1)) 0 j f)) → dnAI (some 294) 100 (nI x) k = some (nI ((A.2.2.1 r).2.1 + (A.2.2.1 t).2.1), k) := fun j k rk => by
      have := len_A rk hx1 hlx
      rw [setR_at] at this
      exact this
    have KK := it_inv (f := fX13_joinDeed_b111 (some 289) (nI G) (nI P) (nI r) (nI t) (nI (A.2.2.1 r).2.1) (nI x)) (Q := fun _ k => RS q0 [x] k (setR A x (fillR (newR K ((A.2.2.1 r).2.1 + (A.2.2.1 t).2.1)) 0 ((A.2.2.1 r).2.1 + (A.2.2.1 t).2.1) f))) (fun j s k => s = nI j ∧ RS q0 [x] k (setR A x (fillR (newR K ((A.2.2.1 r).2.1 + (A.2.2.1 t).2.1)) 0 j f))) ((A.2.2.1 r).2.1 + (A.2.2.1 t).2.1) 1000 0 (by omega) (by omega) ?_ ?_ (nI 0) k3 ⟨rfl, by rw [fillR_0]; exact r1⟩
    · obtain ⟨_, k4, b1, r2⟩ := KK
      rw [nI_0] at b1
      obtain ⟨d1, r3⟩ := holdsNow_A (v := nI x) (p := P) r2 hG (by omega) (fun n hn e => by
        rw [← (nI_eq (by omega) (by omega)).mp e]
        exact hlx)
      rw [rc_nI hx1] at d1 r3
      have lx3 := len_A r3 hx1 (.inl (List.mem_singleton.mpr rfl))
      have lx3 : dnAI (some 294) 100 (nI x) (dnSI k4 292 (6 * G + P) (nI x)) = some (nI ((setR A x (fillR (newR K ((A.2.2.1 r).2.1 + (A.2.2.1 t).2.1)) 0 ((A.2.2.1 r).2.1 + (A.2.2.1 t).2.1) f)).2.2.1 x).2.1, dnSI k4 292 (6 * G + P) (nI x)) := lx3
      rw [setR_at] at lx3
      have lx3 : dnAI (some 294) 100 (nI x) (dnSI k4 292 (6 * G + P) (nI x)) = some (nI ((A.2.2.1 r).2.1 + (A.2.2.1 t).2.1), dnSI k4 292 (6 * G + P) (nI x)) := lx3
      refine ⟨_, _, ?_, r3⟩
      simp only [fX13_joinDeed, fX13_twoRows, hg, v_289 r'.1, (l2 q0 _ k r').1, (l2 q0 _ k r').2, (k2 q0 _ k r').1, (k2 q0 _ k r').2, g_289_7 r'.1, g_289_6 r'.1, len_A r' hr hl, len_A r' ht hlt, kind_A r' hr hl, kind_A r' ht hlt, g13, hF, eset, lR, nI_add, a1, b1, v_289 r2.1, d1, g_289_7 r3.1, lx3, dnB_eval, c_isGrid, c_isKind, c_isSort, c_isPlain, r_isGrid, r_isKind, r_isSort, r_isPlain, r_in, dnP, Bool.false_eq_true, if_false, if_true]
    · rintro j s k hj ⟨rfl, rk⟩
      left
      have hc : ¬ (nI ((A.2.2.1 r).2.1 + (A.2.2.1 t).2.1) ≤ nI j) := fun hc => by have := (nI_leI (a := (A.2.2.1 r).2.1 + (A.2.2.1 t).2.1) (b := j) (by omega) (by omega)).mp hc; omega
      by_cases q : j < (A.2.2.1 r).2.1
      · have hc2 : ¬ (nI (A.2.2.1 r).2.1 ≤ nI j) := fun hc => by have := (nI_leI (a := (A.2.2.1 r).2.1) (b := j) (by omega) (by omega)).mp hc; omega
        obtain ⟨h2, b1, b2⟩ := copies_F (B := B) (i := j) rk hx1 hlx hr hlr hrx (by omega) (by omega) hK (hrw.2.2 _ (by omega)) (tr j (by omega)) (by show (if j < (A.2.2.1 r).2.1 then _ else _) = _; rw [if_pos q]; rfl)
        rw [Nat.zero_add] at b1
        exact ⟨nI (j + 1), h2, by simp only [fX13_joinDeed_b111, fX13_joinDeed_j138, fX13_joinDeed_j155, dnB_eval, g_289_7 rk.1, lx j k rk, hc, hc2, if_false, v_289 rk.1, b1, dnP, nI_1], rfl, b2⟩
      · have hc2 : (nI (A.2.2.1 r).2.1 ≤ nI j) := (nI_leI (a := (A.2.2.1 r).2.1) (b := j) (by omega) (by omega)).mpr (by omega)
        have sb : nI j - nI (A.2.2.1 r).2.1 = nI (j - (A.2.2.1 r).2.1) := by
          have : nI j = nI (j - (A.2.2.1 r).2.1) + nI (A.2.2.1 r).2.1 := by rw [nI_add, show j - (A.2.2.1 r).2.1 + (A.2.2.1 r).2.1 = j by omega]
          rw [this, Int32.add_sub_cancel]
        obtain ⟨h2, b1, b2⟩ := copies_F (B := B) (i := j - (A.2.2.1 r).2.1) rk hx1 hlx ht hlt' htx (by omega) (by omega) hK (htw.2.2 _ (by omega)) (tt _ (by omega)) (by show (if j < (A.2.2.1 r).2.1 then _ else _) = _; rw [if_neg q]; rfl)
        rw [Nat.zero_add] at b1
        exact ⟨nI (j + 1), h2, by simp only [fX13_joinDeed_b111, fX13_joinDeed_j138, fX13_joinDeed_j155, dnB_eval, g_289_7 rk.1, lx j k rk, hc, hc2, if_false, if_true, sb, v_289 rk.1, b1, dnP, nI_1], rfl, b2⟩
    · rintro s k ⟨rfl, rk⟩
      exact ⟨(), k, by simp only [fX13_joinDeed_b111, dnB_eval, g_289_7 rk.1, lx _ k rk, Int32.le_refl, if_true, dnP], rk⟩

theorem call_join {B : Nat} (hB : 16 ≤ B) (g p q : Int32) : Call B B (fX12_join (some 0) g p q) (fX13_join (some 289) g p q) :=
  callA (Nat.le_refl _) (fun h v h1 s1 s2 e => by simp only [fX12_join, dnB_eval, g_0_4 s1, v_259 s1, e, v_0 s2, tally_c s2, dnP]) (fun h v h1 s1 s2 e => by simp only [fX13_join, dnB_eval, v_289 s1, e, v_289 s2, said_r s2, dnP]) (step_join hB g p q)
