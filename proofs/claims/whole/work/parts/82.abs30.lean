/-! ABS 30: times, the whole -/
def tmT (A : Ab) (a b mb W : Nat) : Nat → Ts
  | 0 => (A, [], sp0)
  | p + 1 => match gv A (6 * a + p) with | none => tmT A a b mb W p | some Q => nxS (tmT A a b mb W p) p (pmR Q (sg A b mb) W Q.2.1)
theorem tm_n {A : Ab} {a b mb W p : Nat} (e : gv A (6 * a + p) = none) : tmT A a b mb W (p + 1) = tmT A a b mb W p := by
  show (match gv A (6 * a + p) with | none => tmT A a b mb W p | some Q => nxS (tmT A a b mb W p) p (pmR Q (sg A b mb) W Q.2.1)) = _
  rw [e]
theorem tm_s {A : Ab} {a b mb W p : Nat} {Q : Rw} (e : gv A (6 * a + p) = some Q) : tmT A a b mb W (p + 1) = nxS (tmT A a b mb W p) p (pmR Q (sg A b mb) W Q.2.1) := by
  show (match gv A (6 * a + p) with | none => tmT A a b mb W p | some Q => nxS (tmT A a b mb W p) p (pmR Q (sg A b mb) W Q.2.1)) = _
  rw [e]
theorem made_sk {T : Ts} {j : Nat} {k : dnH} (hz : T.2.2 j = -14) (hk : ∀ p, p < j → k.2.1 302 p = rc (T.2.2 p)) : ∀ p, p < j + 1 → (dnSI k 302 j (-1)).2.1 302 p = rc (T.2.2 p) := fun p hp => by
  show dnUp k.2.1 302 j (-1) 302 p = rc (T.2.2 p)
  by_cases q : p = j
  · subst q
    rw [dnUp_eq, hz]
    rfl
  · rw [dnUp_neK q]
    exact hk p (by omega)
theorem gi_sg {B : Nat} {A : Ab} {T : Ts} {j b m : Nat} (g : GI B A T j) (hb : b < 4) (hm : m ≤ 6) (w : Wf B [] A) : sg T.1 b m = sg A b m := by
  funext i
  unfold sg
  split
  · exact gi_gv g (by omega) w
  · rfl
theorem step_times {B : Nat} (hB : 16 ≤ B) (x y h : Int32) : Step B B (fX11_multiply (some 268) x y h) (fX13_timesDeed (some 289) x y h) := by
  intro A w
  have z0 : (0 : Int32) ≤ 0 := by decide
  cases hg : inB x 0 3
  · exact step_ro (-1) w (fun h0 h c => by simp only [fX11_multiply, hg, dnB_eval, c_isGrid, c_isKind, c_isSort, c_isPlain, r_isGrid, r_isKind, r_isSort, r_isPlain, r_in, dnP, Bool.false_eq_true, if_false, if_true]) (fun q0 q r => by simp only [fX13_timesDeed, hg, dnB_eval, c_isGrid, c_isKind, c_isSort, c_isPlain, r_isGrid, r_isKind, r_isSort, r_isPlain, r_in, dnP, Bool.false_eq_true, if_false, if_true])
  cases hg2 : inB y 0 3
  · exact step_ro (-1) w (fun h0 h c => by simp only [fX11_multiply, hg, hg2, dnB_eval, c_isGrid, c_isKind, c_isSort, c_isPlain, r_isGrid, r_isKind, r_isSort, r_isPlain, r_in, dnP, Bool.false_eq_true, if_false, if_true]) (fun q0 q r => by simp only [fX13_timesDeed, hg, hg2, dnB_eval, c_isGrid, c_isKind, c_isSort, c_isPlain, r_isGrid, r_isKind, r_isSort, r_isPlain, r_in, dnP, Bool.false_eq_true, if_false, if_true])
  cases hg3 : inB h 0 3
  · exact step_ro (-1) w (fun h0 h c => by simp only [fX11_multiply, hg, hg2, hg3, dnB_eval, c_isGrid, c_isKind, c_isSort, c_isPlain, r_isGrid, r_isKind, r_isSort, r_isPlain, r_in, dnP, Bool.false_eq_true, if_false, if_true]) (fun q0 q r => by simp only [fX13_timesDeed, hg, hg2, hg3, dnB_eval, c_isGrid, c_isKind, c_isSort, c_isPlain, r_isGrid, r_isKind, r_isSort, r_isPlain, r_in, dnP, Bool.false_eq_true, if_false, if_true])
  obtain ⟨a, ha, rfl⟩ := inB_of (n := 3) (by decide) hg
  obtain ⟨b, hb, rfl⟩ := inB_of (n := 3) (by decide) hg2
  obtain ⟨H, hH, rfl⟩ := inB_of (n := 3) (by decide) hg3
  have ha : a < 4 := by omega
  have hb : b < 4 := by omega
  have hH : H < 4 := by omega
  by_cases hna : A.1 a < 0
  · exact step_ro (-2) w (fun h0 h c => by simp only [fX11_multiply, hg, hg2, hg3, g_268_0 c.1, sg_0 (st1 c.1), plc_A c ha, hna, dnB_eval, c_isGrid, c_isKind, c_isSort, c_isPlain, r_isGrid, r_isKind, r_isSort, r_isPlain, r_in, dnP, Bool.false_eq_true, if_false, if_true]) (fun q0 k r => by simp only [fX13_timesDeed, hg, hg2, hg3, g_289_4 r.1, plr_A r ha, hna, dnB_eval, c_isGrid, c_isKind, c_isSort, c_isPlain, r_isGrid, r_isKind, r_isSort, r_isPlain, r_in, dnP, Bool.false_eq_true, if_false, if_true])
  by_cases hnb : A.1 b < 0
  · have hn2 : ¬ 0 ≤ A.1 b := Int32.not_le.mpr hnb
    exact step_ro (-2) w (fun h0 h c => by simp only [fX11_multiply, hg, hg2, hg3, g_268_0 c.1, sg_0 (st1 c.1), plc_A c ha, hna, plc_A c hb, hn2, dnB_eval, c_isGrid, c_isKind, c_isSort, c_isPlain, r_isGrid, r_isKind, r_isSort, r_isPlain, r_in, dnP, Bool.false_eq_true, if_false, if_true]) (fun q0 k r => by simp only [fX13_timesDeed, hg, hg2, hg3, g_289_4 r.1, plr_A r ha, hna, plr_A r hb, hn2, dnB_eval, c_isGrid, c_isKind, c_isSort, c_isPlain, r_isGrid, r_isKind, r_isSort, r_isPlain, r_in, dnP, Bool.false_eq_true, if_false, if_true])
  have hn2 : 0 ≤ A.1 b := Int32.not_lt.mp hnb
  obtain ⟨ma, hma, ea⟩ := grid_open w ha hna
  obtain ⟨mb, hmb, eb⟩ := grid_open w hb hnb
  have e5 : (5 : Int32) = nI 5 := rfl
  have uac := fun h0 h (c : CS h0 sp0 [] h A) => fu_c (a := 5) w ha hma ea (by decide) c
  have ubc := fun h0 h (c : CS h0 sp0 [] h A) => fu_c (a := 5) w hb hmb eb (by decide) c
  have uar := fun q0 k (r : RS q0 [] k A) => fu_r (a := 5) w ha hma ea (by decide) r
  have ubr := fun q0 k (r : RS q0 [] k A) => fu_r (a := 5) w hb hmb eb (by decide) r
  rw [← e5] at uac ubc uar ubr
  have fa := fu_9 (ρ := fun p => gv A (6 * a + p)) (m := ma) (a := 5) hma
  have fb := fu_9 (ρ := fun p => gv A (6 * b + p)) (m := mb) (a := 5) hmb
  generalize fuV (fun p => gv A (6 * a + p)) ma 5 = va at uac uar fa
  generalize fuV (fun p => gv A (6 * b + p)) mb 5 = vb at ubc ubr fb
  have n9 : ∀ k : Nat, k < 6 → ¬ nI k = (-9 : Int32) := fun k hk e => absurd (show nI k < 0 by rw [e]; decide) (nI_pos (by omega))
  have n19 : ∀ k : Nat, k < 6 → ¬ (10 : Int32) + nI k = (-9 : Int32) := fun k hk e => by
    rw [show (10 : Int32) = nI 10 from rfl, nI_add] at e
    exact absurd (show nI (10 + k) < 0 by rw [e]; decide) (nI_pos (by omega))
  -- a row that can't be read
  rcases fa with fa | ⟨ka, hka, fa⟩
  case inr =>
    have nn : ¬ va = -9 := by rw [fa]; exact n9 ka (by omega)
    refine ⟨-7, setN A (A.2.2.2.1, va, A.2.2.2.2.2), w.note, fun h0 h c => ⟨_, ?_, c.first va⟩, fun q0 k r' => ⟨_, _, ?_, r'.first va⟩⟩
    · simp only [fX11_multiply, fX11_multiply_j96, hg, hg2, hg3, g_268_0 c.1, g_268_1 c.1, sg_0 (st1 c.1), plc_A c ha, hna, plc_A c hb, hn2, sv (st1 c.1), uac h0 h c, nn, not_false_eq_true, p_258_1 c.1, dnB_eval, c_isGrid, c_isKind, c_isSort, c_isPlain, r_isGrid, r_isKind, r_isSort, r_isPlain, r_in, dnP, Bool.false_eq_true, if_false, if_true]
    · simp only [fX13_timesDeed, fX13_timesDeed_j74, fX13_timesDeed_j92, hg, hg2, hg3, g_289_4 r'.1, plr_A r' ha, hna, plr_A r' hb, hn2, v_289 r'.1, uar q0 k r', ubr q0 k r', nn, not_false_eq_true, p_289_2 r'.1, dnB_eval, c_isGrid, c_isKind, c_isSort, c_isPlain, r_isGrid, r_isKind, r_isSort, r_isPlain, r_in, dnP, Bool.false_eq_true, if_false, if_true]
  rcases fb with fb | ⟨kb, hkb, fb⟩
  case inr =>
    have nn : ¬ vb = -9 := by rw [fb]; exact n9 kb (by omega)
    have n10 : ¬ 10 + vb = -9 := by rw [fb]; exact n19 kb (by omega)
    refine ⟨-7, setN A (A.2.2.2.1, 10 + vb, A.2.2.2.2.2), w.note, fun h0 h c => ⟨_, ?_, c.first (10 + vb)⟩, fun q0 k r' => ⟨_, _, ?_, r'.first (10 + vb)⟩⟩
    · simp only [fX11_multiply, fX11_multiply_j96, hg, hg2, hg3, g_268_0 c.1, g_268_1 c.1, sg_0 (st1 c.1), plc_A c ha, hna, plc_A c hb, hn2, sv (st1 c.1), uac h0 h c, fa, not_true_eq_false, ubc h0 h c, nn, n10, p_258_1 c.1, dnB_eval, c_isGrid, c_isKind, c_isSort, c_isPlain, r_isGrid, r_isKind, r_isSort, r_isPlain, r_in, dnP, Bool.false_eq_true, if_false, if_true]
    · simp only [fX13_timesDeed, fX13_timesDeed_j74, fX13_timesDeed_j92, hg, hg2, hg3, g_289_4 r'.1, plr_A r' ha, hna, plr_A r' hb, hn2, v_289 r'.1, uar q0 k r', ubr q0 k r', fa, not_true_eq_false, nn, p_289_2 r'.1, dnB_eval, c_isGrid, c_isKind, c_isSort, c_isPlain, r_isGrid, r_isKind, r_isSort, r_isPlain, r_in, dnP, Bool.false_eq_true, if_false, if_true]
  have LL := lw_le w hb hmb eb mb (Nat.le_refl _)
  have hσ : ∀ i F, sg A b mb i = some F → F.2.1 ≤ lw (fun p => gv A (6 * b + p)) mb := fun i F e => by
    unfold sg at e
    split at e
    · rename_i q
      have := lw_ge (ρ := fun p => gv A (6 * b + p)) e (mb - (i + 1))
      rw [show i + 1 + (mb - (i + 1)) = mb by omega] at this
      exact this
    · cases e
  have lc := fun h0 h (c : CS h0 sp0 [] h A) => longest_c w hb hmb eb c
  have lr := fun q0 k (r : RS q0 [] k A) => longest_r w hb hmb eb r
  generalize lw (fun p => gv A (6 * b + p)) mb = W at LL hσ lc lr
  have okm : ∀ Q : Rw, rwOk B (pmR Q (sg A b mb) W Q.2.1) := fun Q => ⟨(by decide : 5 < 12), LL, fun _ _ => celOk5⟩
  have gi : ∀ p, p ≤ ma → GI B A (tmT A a b mb W p) p := by
    intro p
    induction p with
    | zero => exact fun _ => gi_0 w
    | succ p ih =>
      intro hp
      have g := ih (by omega)
      cases e : gv A (6 * a + p) with
      | none => rw [tm_n e]; exact gi_skip g
      | some Q => rw [tm_s e]; exact gi_next g (by omega) (okm Q)
  have me : ∀ p (hp : p ≤ ma), (tmT A a b mb W p).1.1 b = nI mb := fun p hp => by rw [(gi p hp).2.2.2.2.2.1]; exact eb
  have mea : ∀ p (hp : p ≤ ma), (tmT A a b mb W p).1.1 a = nI ma := fun p hp => by rw [(gi p hp).2.2.2.2.2.1]; exact ea
  refine ⟨nI ma, gridOf (tmT A a b mb W ma).1 H (nI ma) (tmT A a b mb W ma).2.2, gi_wf (gi ma (Nat.le_refl _)) hma, fun h0 h c => ?_, fun q0 k r' => ?_⟩
  · obtain ⟨a1, c1, a2⟩ := startGrid_A (v := nI ma) c
    have KK := it_inv (f := fX11_multiply_b144 (some 268) (nI a) (nI b) (nI H) (nI W)) (Q := fun _ k => CS h0 (tmT A a b mb W ma).2.2 (tmT A a b mb W ma).2.1 k (tmT A a b mb W ma).1 ∧ k.2.1 2 4 = nI ma) (fun p s k => s = nI p ∧ CS h0 (tmT A a b mb W p).2.2 (tmT A a b mb W p).2.1 k (tmT A a b mb W p).1 ∧ k.2.1 2 4 = nI ma) ma 1000 0 (by omega) (by omega) ?_ ?_ (nI 0) (dnSI h 2 4 (nI ma)) ⟨rfl, c1, a2⟩
    · obtain ⟨_, h2, b1, c2, b2⟩ := KK
      rw [nI_0] at b1
      obtain ⟨h3, d1, c3⟩ := gi_cls (gi ma (Nat.le_refl _)) hH c2 b2
      refine ⟨h3, ?_, c3⟩
      have pa : dnAI (some (1 + 1)) 100 (nI a) h = some (nI ma, h) := by rw [plc_A c ha, ea]
      have hna' : ¬ nI ma < 0 := nI_pos (by omega)
      simp only [fX11_multiply, fX11_multiply_j96, hg, hg2, hg3, g_268_0 c.1, sg_0 (st1 c.1), pa, hna', plc_A c hb, hn2, sv (st1 c.1), uac h0 h c, fa, not_true_eq_false, ubc h0 h c, fb, lc h0 h c, a1, b1, g_268_0 c2.1, sv (st1 c2.1), d1, dnB_eval, c_isGrid, c_isKind, c_isSort, c_isPlain, r_isGrid, r_isKind, r_isSort, r_isPlain, r_in, dnP, Bool.false_eq_true, if_false, if_true]
    · rintro p s k hp ⟨rfl, ck, fk⟩
      left
      have hc : ¬ (nI ma ≤ nI p) := fun hc => by have := (nI_leI (a := ma) (b := p) (by omega) (by omega)).mp hc; omega
      have g := gi p (by omega)
      have pl : dnAI (some (1 + 1)) 100 (nI a) k = some (nI ma, k) := by rw [plc_A ck ha, mea p (by omega)]
      have ge := gi_gv g (show 6 * a + p < 24 by omega) w
      rcases gv_A g.1 ha hma (mea p (by omega)) hp with ⟨e, kc, kr⟩ | ⟨r, hr, e, e3, hl, o, kc, kr⟩
      · rw [ge] at e
        refine ⟨nI (p + 1), k, ?_, rfl, by rw [tm_n e]; exact ck, fk⟩
        simp only [fX11_multiply_b144, fX11_multiply_j194, dnB_eval, g_268_0 ck.1, sg_0 (st1 ck.1), pl, hc, if_false, sv (st1 ck.1), kc h0 _ _ k ck, Option.elim, dnP, nI_1]
      · rw [ge] at e
        have hf := gi_fr g (show p ≤ 6 by omega)
        obtain ⟨k1, b1, c2, f1⟩ := newGrid_E (p := p) (kd := 5) (ln := W) ck g.2.2.1 hf (by omega) (by decide)
        have es := gi_sg g hb hmb w
        obtain ⟨k2, d1, c3, f2⟩ := prods_c (B := B) g.1 hb hmb (me p (by omega)) hr (hl _) o hf LL (by rw [es]; exact hσ) c2
        rw [es] at c3
        refine ⟨nI (p + 1), k2, ?_, rfl, by rw [tm_s e]; exact c3, by rw [f2, f1]; exact fk⟩
        rw [← e5] at b1
        simp only [fX11_multiply_b144, fX11_multiply_j194, dnB_eval, g_268_0 ck.1, sg_0 (st1 ck.1), pl, hc, if_false, sv (st1 ck.1), kc h0 _ _ k ck, Option.elim, b1, v_268 c2.1, d1, dnP, nI_1]
    · rintro s k ⟨rfl, ck, fk⟩
      have pl : dnAI (some (1 + 1)) 100 (nI a) k = some (nI ma, k) := by rw [plc_A ck ha, mea ma (Nat.le_refl _)]
      exact ⟨(), k, by simp only [fX11_multiply_b144, dnB_eval, g_268_0 ck.1, sg_0 (st1 ck.1), pl, Int32.le_refl, if_true, dnP], ck, fk⟩
  · have KK := it_inv (f := fX13_timesDeed_b116 (some 289) (nI a) (nI b) (nI H) (nI W) (nI ma)) (Q := fun _ k => RS q0 (tmT A a b mb W ma).2.1 k (tmT A a b mb W ma).1 ∧ ∀ p, p < ma → k.2.1 302 p = rc ((tmT A a b mb W ma).2.2 p)) (fun p s k => s = nI p ∧ RS q0 (tmT A a b mb W p).2.1 k (tmT A a b mb W p).1 ∧ ∀ i, i < p → k.2.1 302 i = rc ((tmT A a b mb W p).2.2 i)) ma 1000 0 (by omega) (by omega) ?_ ?_ (nI 0) k ⟨rfl, r', fun p hp => by omega⟩
    · obtain ⟨_, k2, b1, r2, b2⟩ := KK
      rw [nI_0] at b1
      obtain ⟨k3, d1, r3⟩ := gi_ref (gi ma (Nat.le_refl _)) hH hma r2 b2
      refine ⟨k3, _, ?_, r3⟩
      have pa : dnAI (some 291) 100 (nI a) k = some (nI ma, k) := by rw [plr_A r' ha, ea]
      have hna' : ¬ nI ma < 0 := nI_pos (by omega)
      simp only [fX13_timesDeed, hg, hg2, hg3, g_289_4 r'.1, pa, hna', plr_A r' hb, hn2, v_289 r'.1, uar q0 k r', ubr q0 k r', fa, fb, not_true_eq_false, lr q0 k r', b1, v_289 r2.1, d1, dnB_eval, c_isGrid, c_isKind, c_isSort, c_isPlain, r_isGrid, r_isKind, r_isSort, r_isPlain, r_in, dnP, Bool.false_eq_true, if_false, if_true]
    · rintro p s k hp ⟨rfl, rk, fk⟩
      left
      have hc : ¬ (nI ma ≤ nI p) := fun hc => by have := (nI_leI (a := ma) (b := p) (by omega) (by omega)).mp hc; omega
      have g := gi p (by omega)
      have ge := gi_gv g (show 6 * a + p < 24 by omega) w
      obtain ⟨d0, r0⟩ := made_A (p := p) (v := -1) rk (by omega)
      rcases gv_A g.1 ha hma (mea p (by omega)) hp with ⟨e, kc, kr⟩ | ⟨r, hr, e, e3, hl, o, kc, kr⟩
      · rw [ge] at e
        refine ⟨nI (p + 1), _, ?_, rfl, by rw [tm_n e]; exact r0, by rw [tm_n e]; exact made_sk (g.2.2.2.1 p (Nat.le_refl _)) fk⟩
        simp only [fX13_timesDeed_b116, fX13_timesDeed_j199, dnB_eval, hc, if_false, g_289_18 rk.1, d0, v_289 r0.1, kr q0 _ _ r0, Bool.false_eq_true, dnP, nI_1]
      · rw [ge] at e
        have hf := gi_fr g (show p ≤ 6 by omega)
        obtain ⟨k1, b1, r1, f1⟩ := newRow_E (kd := 5) (ln := W) r0 g.1.2.1 hf (by decide)
        obtain ⟨d1, r2⟩ := made_A (p := p) (v := nI (frN (tmT A a b mb W p).2.1 (tmT A a b mb W p).1)) r1 (by omega)
        have es := gi_sg g hb hmb w
        have hx1 := hf.1
        have hrx : r ≠ frN (tmT A a b mb W p).2.1 (tmT A a b mb W p).1 := fun ee => hf.2.1 (ee ▸ hl _)
        generalize hxx : frN (tmT A a b mb W p).2.1 (tmT A a b mb W p).1 = x at hf r1 r2 d1 hx1 hrx b1
        have hlx : live (x :: (tmT A a b mb W p).2.1) (tmT A a b mb W p).1 x := .inl (List.mem_cons.mpr (.inl rfl))
        have m2 : ∀ i, i < p + 1 → (dnSI k1 302 p (nI x)).2.1 302 i = rc ((nxS (tmT A a b mb W p) p (pmR ((tmT A a b mb W p).1.2.2.1 r) (sg A b mb) W ((tmT A a b mb W p).1.2.2.1 r).2.1)).2.2 i) := by
          rw [← hxx]
          refine made_nx (by rw [hxx]; exact hx1) (fun i hi => ?_)
          rw [f1]
          show dnUp k.2.1 302 p (-1) 302 i = _
          rw [dnUp_neK (by omega)]
          exact fk i hi
        let D : Nat → Rw := fun j => fillR (newR 5 W) 0 j (fun c => (5, pr ((tmT A a b mb W p).1.2.2.1 r) (sg A b mb) c ((tmT A a b mb W p).1.2.2.1 r).2.1, FP.dconst0))
        have okD : ∀ j, rwOk B (D j) := fun j => rwOk_fill (rwOk_new hB (by decide) LL) (fun _ _ => celOk5)
        have Dn : D W = pmR ((tmT A a b mb W p).1.2.2.1 r) (sg A b mb) W ((tmT A a b mb W p).1.2.2.1 r).2.1 := by
          show (5, W, _) = (5, W, _)
          have : (fun j => if 0 ≤ j ∧ j < 0 + W then ((5 : Nat), pr ((tmT A a b mb W p).1.2.2.1 r) (sg A b mb) (j - 0) ((tmT A a b mb W p).1.2.2.1 r).2.1, FP.dconst0) else newC 5) = (fun c => ((5 : Nat), pr ((tmT A a b mb W p).1.2.2.1 r) (sg A b mb) c ((tmT A a b mb W p).1.2.2.1 r).2.1, FP.dconst0)) := by
            funext c
            by_cases q : c < W
            · rw [if_pos (by omega), Nat.sub_zero]
            · rw [if_neg (by omega), pr_out hσ (by omega)]
              rfl
          exact congrArg (fun z => ((5 : Nat), W, z)) this
        have K2 := it_inv (f := fX13_timesDeed_b158 (some 289) (nI a) (nI b) (nI H) (nI W) (nI ma) (nI p)) (Q := fun _ k => RS q0 (x :: (tmT A a b mb W p).2.1) k (setR (tmT A a b mb W p).1 x (D W)) ∧ k.2.1 302 = (dnSI k1 302 p (nI x)).2.1 302) (fun j s k => s = nI j ∧ RS q0 (x :: (tmT A a b mb W p).2.1) k (setR (tmT A a b mb W p).1 x (D j)) ∧ k.2.1 302 = (dnSI k1 302 p (nI x)).2.1 302) W 1000 0 (by omega) (by omega) ?_ ?_ (nI 0) (dnSI k1 302 p (nI x)) ⟨rfl, by rw [show D 0 = newR 5 W from fillR_0]; exact r2, rfl⟩
        · obtain ⟨_, k3, t1, r3, f3⟩ := K2
          rw [nI_0] at t1
          rw [Dn] at r3
          refine ⟨nI (p + 1), k3, ?_, rfl, ?_, ?_⟩
          · rw [← e5] at b1
            simp only [fX13_timesDeed_b116, fX13_timesDeed_j199, dnB_eval, hc, if_false, g_289_18 rk.1, d0, v_289 r0.1, (kr q0 _ _ r0).1, if_true, g_289_18 r0.1, b1, d1, t1, dnP, nI_1]
          · rw [tm_s e]
            unfold nxS
            rw [hxx]
            exact r3
          · rw [tm_s e, f3]
            exact m2
        · rintro j s k hj ⟨rfl, rj, fj⟩
          left
          have hcj : ¬ (nI W ≤ nI j) := fun hc => by have := (nI_leI (a := W) (b := j) (by omega) (by omega)).mp hc; omega
          have wj : Wf B (x :: (tmT A a b mb W p).2.1) (setR (tmT A a b mb W p).1 x (D j)) := g.1.setR consY (okD j)
          have i1 := dnIn_nI (show p < 6 by omega) (by decide)
          have i2 : (nI p).toNatClampNeg = p := nI_clamp (by omega)
          have hm : k.2.1 302 p = nI x := by
            rw [fj]
            show dnUp k1.2.1 302 p (nI x) 302 p = _
            rw [dnUp_eq]
          rcases gv_A wj ha hma (mea p (by omega)) hp with ⟨e9, -⟩ | ⟨r9, hr9, e9, e39, hl9, o9, -, kr9⟩
          · exfalso
            have e3 : (tmT A a b mb W p).1.2.1 (6 * a + p) = nI r := e3
            unfold gv gr at e9
            have e39 : (setR (tmT A a b mb W p).1 x (D j)).2.1 (6 * a + p) = nI r := e3
            rw [e39, if_neg (nI_pos (by omega))] at e9
            cases e9
          · have e39 : (tmT A a b mb W p).1.2.1 (6 * a + p) = nI r9 := e39
            rw [e3] at e39
            have er := (nI_eq (by omega) (by omega)).mp e39
            subst er
            have sgj : sg (setR (tmT A a b mb W p).1 x (D j)) b mb = sg A b mb := by
              rw [← es]
              funext i
              unfold sg
              split
              · rename_i q
                unfold gv
                rw [gr_setR]
                cases q2 : gr (tmT A a b mb W p).1 (6 * b + i) with
                | none => rfl
                | some t =>
                  show some ((setR (tmT A a b mb W p).1 x (D j)).2.2.1 t) = some ((tmT A a b mb W p).1.2.2.1 t)
                  have htx : t ≠ x := fun ee => by
                    rcases gr_A g.1 hb hmb (me p (by omega)) q with ⟨e7, -⟩ | ⟨r7, hr7, e7, -, hl7, -⟩
                    · rw [q2] at e7; cases e7
                    · rw [q2] at e7; cases e7
                      exact hf.2.1 (ee ▸ hl7 _)
                  rw [setR_ne htx]
              · rfl
            have pd := product_r (B := B) (a := a) (p := p) (j := j) wj hb hmb (me p (by omega)) hr (hl9 _) o9 (by omega) rj (kr9 q0 _ k rj).2
            rw [sgj, setR_ne hrx] at pd
            have t3 := rj.num (v := pr ((tmT A a b mb W p).1.2.2.1 r) (sg A b mb) j ((tmT A a b mb W p).1.2.2.1 r).2.1) hx1 hlx (show j < 12 by omega)
            have Dc : (D j).2.2 j = newC 5 := by
              show (if 0 ≤ j ∧ j < 0 + j then _ else _) = _
              rw [if_neg (by omega)]
              rfl
            rw [setR_at, setR_setR, Dc] at t3
            have Ds : D (j + 1) = setC (D j) j (5, pr ((tmT A a b mb W p).1.2.2.1 r) (sg A b mb) j ((tmT A a b mb W p).1.2.2.1 r).2.1, FP.dconst0) := by
              show fillR _ 0 (j + 1) _ = setC (fillR _ 0 j _) j _
              rw [fillR_s, Nat.zero_add]
            have t3 : RS q0 (x :: (tmT A a b mb W p).2.1) (dnSL k 297 (12 * x + j) (pr ((tmT A a b mb W p).1.2.2.1 r) (sg A b mb) j ((tmT A a b mb W p).1.2.2.1 r).2.1)) (setR (tmT A a b mb W p).1 x (setC (D j) j (5, pr ((tmT A a b mb W p).1.2.2.1 r) (sg A b mb) j ((tmT A a b mb W p).1.2.2.1 r).2.1, FP.dconst0))) := t3
            rw [← Ds] at t3
            refine ⟨nI (j + 1), _, ?_, rfl, t3, fj⟩
            simp only [fX13_timesDeed_b158, hcj, if_false, dnB_eval, g_289_10 rj.1, g_289_18 rj.1, a_302 rj.1, i1, i2, if_true, hm, v_289 rj.1, pd, at_r, t_297 rj.1, dnIn_nI (show 12 * x + j < 384 by omega) (by decide), nI_clamp (show 12 * x + j < 2 ^ 31 by omega), dnP, nI_1]
        · rintro s k ⟨rfl, rj, fj⟩
          exact ⟨(), k, by simp only [fX13_timesDeed_b158, Int32.le_refl, if_true, dnP], rj, fj⟩
    · rintro s k ⟨rfl, rk, fk⟩
      exact ⟨(), k, by simp only [fX13_timesDeed_b116, Int32.le_refl, if_true, dnP], rk, fk⟩

theorem call_times {B : Nat} (hB : 16 ≤ B) (x y h : Int32) : Call B B (fX12_times (some 0) x y h) (fX13_times (some 289) x y h) :=
  callA (Nat.le_refl _) (fun h v h1 s1 s2 e => by simp only [fX12_times, dnB_eval, g_0_5 s1, v_268 s1, e, v_0 s2, tally_c s2, dnP]) (fun h v h1 s1 s2 e => by simp only [fX13_times, dnB_eval, v_289 s1, e, v_289 s2, said_r s2, dnP]) (step_times hB x y h)
