/-! ABS 27: turn -/
theorem accept_SE {B : Nat} {h0 h : dnH} {S : Nat → Int32} {X : List Nat} {A : Ab} {x r i j : Nat} (c : CS h0 S X h A) (hx : x < 31) (hlx : live X A x) (hr : r < 31) (hlr : live X A r) (hi : i < 12) (hj : j < 12) (wx : rwOk B (A.2.2.1 x)) (wr : celOk B (A.2.2.1 r).1 ((A.2.2.1 r).2.2 j)) :
    ∃ h2, fX5_accept (some (5 + 4 * x)) (nI i) (some (5 + 4 * r)) (nI j) h = some (tk (A.2.2.1 x).1 ((A.2.2.1 r).2.2 j).1, h2) ∧ CS h0 S X h2 (if tk (A.2.2.1 x).1 ((A.2.2.1 r).2.2 j).1 = true then setR A x (setC (A.2.2.1 x) i (cvt (A.2.2.1 x).1 ((A.2.2.1 r).2.2 j))) else A) ∧ h2.2.1 2 = h.2.1 2 := by
  obtain ⟨h2, b1, b2, b3⟩ := accept_A (B := B) (i := i) (j := j) (row1 c.1 hx) (row1 c.1 hr) (c.row hx hlx) (c.row hr hlr) hi hj wx.1 (wx.2.2 i hi) wr.1 wr.2.2.2 (fun e _ h8 => by
    have e : x = r := by omega
    subst e
    exact wr.2.2.1 h8)
  refine ⟨h2, b1, ?_, (b2.1.2.2 2 (by omega)).1⟩
  have c2 := c.setRow (Y := X) hx (fun m hm => .inr hm) b2 b3
  split
  · rename_i ht
    rw [if_pos ht] at c2
    exact c2
  · rename_i ht
    rw [if_neg ht, setR_self] at c2
    exact c2
theorem newGrid_E {h0 h : dnH} {S : Nat → Int32} {X : List Nat} {A : Ab} {x p kd ln : Nat} (c : CS h0 S X h A) (hX : spX S X) (hf : isFr X A x) (hp : p < 6) (hkd : kd < 12) : ∃ h2, fX9_rowOfNewGrid (some 1) (nI p) (nI kd) (nI ln) h = some (some (5 + 4 * x), h2) ∧ CS h0 (upS S p (nI x)) (x :: X) h2 (setR A x (newR kd ln)) ∧ h2.2.1 2 = h.2.1 2 := by
  obtain ⟨h1, a1, c1, f1⟩ := freshRow_E (kd := kd) (ln := ln) c hX hf hkd
  have hx := hf.1
  have e1 := dnIn_nI (show 24 + p < 30 by omega) (by decide)
  have e2 : (nI (24 + p)).toNatClampNeg = 24 + p := nI_clamp (by omega)
  have a4 : (4 : Int32) * 6 + nI p = nI (24 + p) := by rw [show (4 : Int32) * 6 = nI 24 from rfl, nI_add]
  have st := st_2 (st1 c1.1) (nI (24 + p)) (nI x)
  have c2 := c1.spare (p := p) (v := nI x)
  refine ⟨_, ?_, c2, (show dnUp h1.2.1 3 (24 + p) (nI x) 2 = h.2.1 2 by rw [dnUp_row (by decide)]; exact (f1.1.2.2 2 (by omega)).1)⟩
  simp only [fX9_rowOfNewGrid, fX9_place, dnB_eval, sv (st1 c.1), a1, sv (st1 c1.1), sg_1 (st1 c1.1), rg_i (row1 c1.1 hx), c1.2.2.1 x hx, a4, st, e1, e2, if_true, dnP]
/-- the rows of a grid, in a state that has the same there -/
theorem col_c {B : Nat} {X : List Nat} {A : Ab} {S : Nat → Int32} (hB : 16 ≤ B) (w : Wf B X A) {G m j x : Nat} {ρ : Nat → Option Rw} (hG : G < 4) (hm : m ≤ 6) (hj : j < 6) (e1 : A.1 G = nI m) (hρ : ∀ p, p < m → gv A (6 * G + p) = ρ p) (hX : spX S X) (hx : isFr X A x) {h0 h : dnH} (c : CS h0 S X h A) : ∃ h2, fX11_makeColumn (some 268) (nI G) (nI j) h = some ((), h2) ∧ CS h0 (upS S j (nI x)) (x :: X) h2 (setR A x (coF ρ m j)) ∧ h2.2.1 2 = h.2.1 2 := by
  have kds : ∀ p, p < m → ∀ R, ρ p = some R → rwOk B R := fun p hp R e => by
    rw [← hρ p hp] at e
    rcases gv_A w hG hm e1 hp with ⟨e2, -⟩ | ⟨r, hr, e2, -, -, o, -⟩
    · rw [e] at e2; cases e2
    · rw [e] at e2; cases e2; exact o
  have SL := coS_lt (j := j) (fun p hp R e => (kds p hp R e).1)
  have NL := coN_le (ρ := ρ) (j := j)
  have pass1 : dnIt 1000 (fX11_makeColumn_b8 (some 268) (nI G) (nI j)) (0, 0, 0) h = some ((nI (coN ρ j m), nI (coS ρ j m)), h) := by
    refine dnIt_run (f := fX11_makeColumn_b8 (some 268) (nI G) (nI j)) (q := (nI (coN ρ j m), nI (coS ρ j m))) (hq := h) m 1000 (fun p => ((nI (coN ρ j p), nI (coS ρ j p), nI p), h)) (by omega) ?_ ?_
    · intro p hp
      have hc : ¬ (nI m ≤ nI p) := fun hc => by have := (nI_leI (a := m) (b := p) (by omega) (by omega)).mp hc; omega
      rcases gv_A w hG hm e1 hp with ⟨e, kc, kr⟩ | ⟨r, hr, e, -, hl, o, kc, kr⟩
      · rw [hρ p hp] at e
        obtain ⟨y1, y2, -⟩ := co_n (j := j) (K := 0) (n := 0) (.inl e)
        rw [y1, y2]
        simp only [fX11_makeColumn_b8, fX11_makeColumn_j63, dnB_eval, g_268_0 c.1, sg_0 (st1 c.1), plc_A c hG, e1, hc, if_false, sv (st1 c.1), kc h0 _ _ h c, Option.elim, dnP, nI_1]
      · rw [hρ p hp] at e
        have hcel := hasCell_cN (row1 c.1 hr) (c.row hr (hl _)).2.1 o.2.1 (show j < 2 ^ 31 by omega)
        by_cases q : j < (A.2.2.1 r).2.1
        · obtain ⟨y1, y2, -⟩ := co_s (K := 0) (n := 0) e q
          rw [y1, y2]
          simp only [fX11_makeColumn_b8, fX11_makeColumn_j63, dnB_eval, g_268_0 c.1, sg_0 (st1 c.1), plc_A c hG, e1, hc, if_false, sv (st1 c.1), kc h0 _ _ h c, Option.elim, rv (row1 c.1 hr), hcel, q, decide_true, if_true, rg_i (row1 c.1 hr), (c.row hr (hl _)).1, bit_nI o.1, nI_or, dnP, nI_1]
        · obtain ⟨y1, y2, -⟩ := co_n (j := j) (K := 0) (n := 0) (.inr ⟨_, e, q⟩)
          rw [y1, y2]
          simp only [fX11_makeColumn_b8, fX11_makeColumn_j63, dnB_eval, g_268_0 c.1, sg_0 (st1 c.1), plc_A c hG, e1, hc, if_false, sv (st1 c.1), kc h0 _ _ h c, Option.elim, rv (row1 c.1 hr), hcel, q, decide_false, Bool.false_eq_true, dnP, nI_1]
    · simp only [fX11_makeColumn_b8, dnB_eval, g_268_0 c.1, sg_0 (st1 c.1), plc_A c hG, e1, Int32.le_refl, if_true, dnP]
  have hset := SL m (Nat.le_refl _)
  have hK := lkd_lt (coS ρ j m)
  have lC := leastC hset
  have htk : ∀ p, p < m → ∀ R, ρ p = some R → j < R.2.1 → (R.2.2 j).1 < 12 ∧ tk (lkd (coS ρ j m)) (R.2.2 j).1 = true ∧ valOk B (R.2.2 j).1 (R.2.2 j).2.1 (R.2.2 j).2.2 := fun p hp R e q => by
    have o := kds p hp R e
    have o12 := o.2.1
    have hb := coS_bit e q (m - (p + 1))
    rw [show p + 1 + (m - (p + 1)) = m by omega] at hb
    exact ⟨(o.2.2 j (by omega)).1, lkd_tk hb (o.2.2 j (by omega)).1 (o.2.2 j (by omega)).2.1 (o.2.2 j (by omega)).2.2.1, (o.2.2 j (by omega)).2.2.2⟩
  have nm := NL m
  have okR := coR_ok (m := m) (K := lkd (coS ρ j m)) (n := coN ρ j m) hB hK (by omega) htk
  unfold coF
  generalize lkd (coS ρ j m) = K at hK lC htk okR
  obtain ⟨h1, a1, c1, f1⟩ := newGrid_E (p := j) (kd := K) (ln := coN ρ j m) c hX hx hj hK
  have hx1 := hx.1
  have hlx : live (x :: X) A x := .inl (List.mem_cons.mpr (.inl rfl))
  have wx : ∀ p, p ≤ m → Wf B (x :: X) (setR A x (coR ρ j K (coN ρ j m) p)) := fun p hp => w.setR consY (okR p hp)
  have KK := it_inv (f := fX11_makeColumn_b91 (some 268) (nI G) (nI j) (some (5 + 4 * x))) (Q := fun _ k => CS h0 (upS S j (nI x)) (x :: X) k (setR A x (coR ρ j K (coN ρ j m) m)) ∧ k.2.1 2 = h.2.1 2) (fun p s k => s = (nI (coN ρ j p), nI p) ∧ CS h0 (upS S j (nI x)) (x :: X) k (setR A x (coR ρ j K (coN ρ j m) p)) ∧ k.2.1 2 = h.2.1 2) m 1000 0 (by omega) (by omega) ?_ ?_ (nI (coN ρ j 0), nI 0) h1 ⟨rfl, c1, f1⟩
  · obtain ⟨_, h2, b1, c2, f2⟩ := KK
    have b1 : dnIt 1000 (fX11_makeColumn_b91 (some 268) (nI G) (nI j) (some (5 + 4 * x))) (0, 0) h1 = some (_, h2) := b1
    exact ⟨h2, by simp only [fX11_makeColumn, dnB_eval, pass1, g_268_0 c.1, lC, sv (st1 c.1), a1, b1, dnP], c2, f2⟩
  · rintro p s k hp ⟨rfl, ck, fk⟩
    left
    have hc : ¬ (nI m ≤ nI p) := fun hc => by have := (nI_leI (a := m) (b := p) (by omega) (by omega)).mp hc; omega
    have pl : dnAI (some (1 + 1)) 100 (nI G) k = some (nI m, k) := by rw [plc_A ck hG]; exact congrArg (fun z => some (z, k)) e1
    have np := NL p
    rcases gv_A (wx p (by omega)) hG hm e1 hp with ⟨e, kc, kr⟩ | ⟨r, hr, e, e3, hl, o, kc, kr⟩
    · have e : ρ p = none := by
        rw [← hρ p hp]
        unfold gv at e ⊢
        rw [gr_setR] at e
        cases q : gr A (6 * G + p) with
        | none => rfl
        | some t => rw [q] at e; cases e
      obtain ⟨y1, -, y3⟩ := co_n (j := j) (K := K) (n := coN ρ j m) (.inl e)
      refine ⟨_, k, ?_, rfl, by rw [y3]; exact ck, fk⟩
      rw [y1]
      simp only [fX11_makeColumn_b91, fX11_makeColumn_j145, dnB_eval, g_268_0 ck.1, sg_0 (st1 ck.1), pl, hc, if_false, sv (st1 ck.1), kc h0 _ _ k ck, Option.elim, dnP, nI_1]
    · have hrx : r ≠ x := fun ee => hx.2.1 (ee ▸ (live_mono (by intro _ hm; cases hm) (hl [])))
      rw [setR_ne hrx] at o e
      have e : ρ p = some (A.2.2.1 r) := by
        rw [← hρ p hp]
        rcases gv_A w hG hm e1 hp with ⟨e2, -⟩ | ⟨r2, hr2, e2, e4, -⟩
        · exfalso
          have e3 : A.2.1 (6 * G + p) = nI r := e3
          unfold gv gr at e2
          rw [e3, if_neg (nI_pos (by omega))] at e2
          cases e2
        · have e3 : A.2.1 (6 * G + p) = nI r := e3
          rw [e4] at e3
          rw [e2, (nI_eq (by omega) (by omega)).mp e3]
      have rr := ck.row hr (hl _)
      rw [setR_ne hrx] at rr
      have hcel := hasCell_cN (row1 ck.1 hr) rr.2.1 o.2.1 (show j < 2 ^ 31 by omega)
      have o12 := o.2.1
      by_cases q : j < (A.2.2.1 r).2.1
      · obtain ⟨y1, -, y3⟩ := co_s (K := K) (n := coN ρ j m) e q
        obtain ⟨z1, z2, z3⟩ := htk p hp _ e q
        obtain ⟨k2, b1, b2, b3⟩ := accept_SE (B := B) (i := coN ρ j p) (j := j) ck hx1 hlx hr (hl _) (by omega) (by omega) (by rw [setR_at]; exact okR p (by omega)) (by rw [setR_ne hrx]; exact o.2.2 j (by omega))
        rw [setR_at, setR_ne hrx, coR_kd, if_pos z2, setR_setR, ← y3] at b2
        refine ⟨_, k2, ?_, rfl, b2, b3.trans fk⟩
        rw [y1]
        simp only [fX11_makeColumn_b91, fX11_makeColumn_j145, dnB_eval, g_268_0 ck.1, sg_0 (st1 ck.1), pl, hc, if_false, sv (st1 ck.1), kc h0 _ _ k ck, Option.elim, rv (row1 ck.1 hr), hcel, q, decide_true, if_true, rv (row1 ck.1 hx1), b1, dnP, nI_1]
      · obtain ⟨y1, -, y3⟩ := co_n (j := j) (K := K) (n := coN ρ j m) (.inr ⟨_, e, q⟩)
        refine ⟨_, k, ?_, rfl, by rw [y3]; exact ck, fk⟩
        rw [y1]
        simp only [fX11_makeColumn_b91, fX11_makeColumn_j145, dnB_eval, g_268_0 ck.1, sg_0 (st1 ck.1), pl, hc, if_false, sv (st1 ck.1), kc h0 _ _ k ck, Option.elim, rv (row1 ck.1 hr), hcel, q, decide_false, Bool.false_eq_true, dnP, nI_1]
  · rintro s k ⟨rfl, ck, fk⟩
    have pl : dnAI (some (1 + 1)) 100 (nI G) k = some (nI m, k) := by rw [plc_A ck hG]; exact congrArg (fun z => some (z, k)) e1
    exact ⟨(), k, by simp only [fX11_makeColumn_b91, dnB_eval, g_268_0 ck.1, sg_0 (st1 ck.1), pl, Int32.le_refl, if_true, dnP], ck, fk⟩
theorem col_r {B : Nat} {X : List Nat} {A : Ab} (hB : 16 ≤ B) (w : Wf B X A) {G m j x : Nat} {ρ : Nat → Option Rw} (hG : G < 4) (hm : m ≤ 6) (hj : j < 6) (e1 : A.1 G = nI m) (hρ : ∀ p, p < m → gv A (6 * G + p) = ρ p) (hx : isFr X A x) {h0 h : dnH} (c : RS h0 X h A) : ∃ h2, fX13_columnRow (some 289) (nI G) (nI j) h = some (nI x, h2) ∧ RS h0 (x :: X) h2 (setR A x (coF ρ m j)) ∧ h2.2.1 302 = h.2.1 302 := by
  have kds : ∀ p, p < m → ∀ R, ρ p = some R → rwOk B R := fun p hp R e => by
    rw [← hρ p hp] at e
    rcases gv_A w hG hm e1 hp with ⟨e2, -⟩ | ⟨r, hr, e2, -, -, o, -⟩
    · rw [e] at e2; cases e2
    · rw [e] at e2; cases e2; exact o
  have SL := coS_lt (j := j) (fun p hp R e => (kds p hp R e).1)
  have NL := coN_le (ρ := ρ) (j := j)
  have pl0 : dnAI (some 291) 100 (nI G) h = some (nI m, h) := by rw [plr_A c hG, e1]
  have pass1 : dnIt 1000 (fX13_columnRow_b8 (some 289) (nI G) (nI j)) (0, 0, 0) h = some ((nI (coN ρ j m), nI (coS ρ j m)), h) := by
    refine dnIt_run (f := fX13_columnRow_b8 (some 289) (nI G) (nI j)) (q := (nI (coN ρ j m), nI (coS ρ j m))) (hq := h) m 1000 (fun p => ((nI (coN ρ j p), nI (coS ρ j p), nI p), h)) (by omega) ?_ ?_
    · intro p hp
      have hc : ¬ (nI m ≤ nI p) := fun hc => by have := (nI_leI (a := m) (b := p) (by omega) (by omega)).mp hc; omega
      have hcl := hasCell_N w hG hm e1 hp (show j < 2 ^ 31 by omega) h0 X h c
      have zer : nI (coS ρ j p) ||| 0 = nI (coS ρ j p) := by
        show nI (coS ρ j p) ||| nI 0 = _
        rw [nI_or, Nat.or_zero]
      rcases gv_A w hG hm e1 hp with ⟨e, kc, kr⟩ | ⟨r, hr, e, -, hl, o, kc, kr⟩
      · rw [e] at hcl
        rw [hρ p hp] at e
        obtain ⟨y1, y2, -⟩ := co_n (j := j) (K := 0) (n := 0) (.inl e)
        rw [y1, y2]
        simp only [fX13_columnRow_b8, fX13_columnRow_j36, fX13_columnRow_j69, dnB_eval, g_289_4 c.1, pl0, hc, if_false, v_289 c.1, hcl, Bool.false_eq_true, dnP, nI_1, dnZ, Int32.add_zero, zer]
      · rw [e] at hcl
        rw [hρ p hp] at e
        by_cases q : j < (A.2.2.1 r).2.1
        · obtain ⟨y1, y2, -⟩ := co_s (K := 0) (n := 0) e q
          rw [y1, y2]
          simp only [fX13_columnRow_b8, fX13_columnRow_j36, fX13_columnRow_j69, dnB_eval, g_289_4 c.1, pl0, hc, if_false, v_289 c.1, hcl, q, decide_true, if_true, g_289_6 c.1, (kr h0 _ h c).2, kind_A c hr (hl _), bit_nI o.1, nI_or, dnP, nI_1, dnZ]
        · obtain ⟨y1, y2, -⟩ := co_n (j := j) (K := 0) (n := 0) (.inr ⟨_, e, q⟩)
          rw [y1, y2]
          simp only [fX13_columnRow_b8, fX13_columnRow_j36, fX13_columnRow_j69, dnB_eval, g_289_4 c.1, pl0, hc, if_false, v_289 c.1, hcl, q, decide_false, Bool.false_eq_true, dnP, nI_1, dnZ, Int32.add_zero, zer]
    · simp only [fX13_columnRow_b8, dnB_eval, g_289_4 c.1, pl0, Int32.le_refl, if_true, dnP]
  have hset := SL m (Nat.le_refl _)
  have hK := lkd_lt (coS ρ j m)
  have lR := leastR hset
  have htk : ∀ p, p < m → ∀ R, ρ p = some R → j < R.2.1 → (R.2.2 j).1 < 12 ∧ tk (lkd (coS ρ j m)) (R.2.2 j).1 = true ∧ valOk B (R.2.2 j).1 (R.2.2 j).2.1 (R.2.2 j).2.2 := fun p hp R e q => by
    have o := kds p hp R e
    have o12 := o.2.1
    have hb := coS_bit e q (m - (p + 1))
    rw [show p + 1 + (m - (p + 1)) = m by omega] at hb
    exact ⟨(o.2.2 j (by omega)).1, lkd_tk hb (o.2.2 j (by omega)).1 (o.2.2 j (by omega)).2.1 (o.2.2 j (by omega)).2.2.1, (o.2.2 j (by omega)).2.2.2⟩
  have nm := NL m
  have okR := coR_ok (m := m) (K := lkd (coS ρ j m)) (n := coN ρ j m) hB hK (by omega) htk
  unfold coF
  generalize lkd (coS ρ j m) = K at hK lR htk okR
  obtain ⟨h1, a1, c1, f1⟩ := newRow_E (kd := K) (ln := coN ρ j m) c w.2.1 hx hK
  have hx1 := hx.1
  have hlx : live (x :: X) A x := .inl (List.mem_cons.mpr (.inl rfl))
  have wx : ∀ p, p ≤ m → Wf B (x :: X) (setR A x (coR ρ j K (coN ρ j m) p)) := fun p hp => w.setR consY (okR p hp)
  have KK := it_inv (f := fX13_columnRow_b96 (some 289) (nI G) (nI j) (nI x)) (Q := fun _ k => RS h0 (x :: X) k (setR A x (coR ρ j K (coN ρ j m) m)) ∧ k.2.1 302 = h.2.1 302) (fun p s k => s = (nI (coN ρ j p), nI p) ∧ RS h0 (x :: X) k (setR A x (coR ρ j K (coN ρ j m) p)) ∧ k.2.1 302 = h.2.1 302) m 1000 0 (by omega) (by omega) ?_ ?_ (nI (coN ρ j 0), nI 0) h1 ⟨rfl, c1, f1⟩
  · obtain ⟨_, h2, b1, c2, f2⟩ := KK
    have b1 : dnIt 1000 (fX13_columnRow_b96 (some 289) (nI G) (nI j) (nI x)) (0, 0) h1 = some (_, h2) := b1
    exact ⟨h2, by simp only [fX13_columnRow, dnB_eval, pass1, lR, v_289 c.1, a1, b1, dnP], c2, f2⟩
  · rintro p s k hp ⟨rfl, ck, fk⟩
    left
    have hc : ¬ (nI m ≤ nI p) := fun hc => by have := (nI_leI (a := m) (b := p) (by omega) (by omega)).mp hc; omega
    have pl : dnAI (some 291) 100 (nI G) k = some (nI m, k) := by rw [plr_A ck hG]; exact congrArg (fun z => some (z, k)) e1
    have np := NL p
    have hcl := hasCell_N (wx p (by omega)) hG hm e1 hp (show j < 2 ^ 31 by omega) h0 _ k ck
    rcases gv_A (wx p (by omega)) hG hm e1 hp with ⟨e, kc, kr⟩ | ⟨r, hr, e, e3, hl, o, kc, kr⟩
    · rw [e] at hcl
      have e : ρ p = none := by
        rw [← hρ p hp]
        unfold gv at e ⊢
        rw [gr_setR] at e
        cases q : gr A (6 * G + p) with
        | none => rfl
        | some t => rw [q] at e; cases e
      obtain ⟨y1, -, y3⟩ := co_n (j := j) (K := K) (n := coN ρ j m) (.inl e)
      refine ⟨_, k, ?_, rfl, by rw [y3]; exact ck, fk⟩
      rw [y1]
      simp only [fX13_columnRow_b96, fX13_columnRow_j137, dnB_eval, g_289_4 ck.1, pl, hc, if_false, v_289 ck.1, hcl, Bool.false_eq_true, dnP, nI_1]
    · rw [e] at hcl
      have hrx : r ≠ x := fun ee => hx.2.1 (ee ▸ (live_mono (by intro _ hm; cases hm) (hl [])))
      rw [setR_ne hrx] at o e hcl
      have e : ρ p = some (A.2.2.1 r) := by
        rw [← hρ p hp]
        rcases gv_A w hG hm e1 hp with ⟨e2, -⟩ | ⟨r2, hr2, e2, e4, -⟩
        · exfalso
          have e3 : A.2.1 (6 * G + p) = nI r := e3
          unfold gv gr at e2
          rw [e3, if_neg (nI_pos (by omega))] at e2
          cases e2
        · have e3 : A.2.1 (6 * G + p) = nI r := e3
          rw [e4] at e3
          rw [e2, (nI_eq (by omega) (by omega)).mp e3]
      have o12 := o.2.1
      by_cases q : j < (A.2.2.1 r).2.1
      · obtain ⟨y1, -, y3⟩ := co_s (K := K) (n := coN ρ j m) e q
        obtain ⟨z1, z2, z3⟩ := htk p hp _ e q
        obtain ⟨k2, b1, b2, b3⟩ := copies_E (B := B) (i := j) (j := coN ρ j p) ck hr (hl _) (by omega) hx1 hlx (by omega) (by rw [setR_at, coR_kd]; exact hK) (by rw [setR_ne hrx]; exact o.2.2 j (by omega))
        rw [setR_at, setR_ne hrx, coR_kd, if_pos z2, setR_setR, ← y3] at b2
        refine ⟨_, k2, ?_, rfl, b2, b3.trans fk⟩
        rw [y1]
        simp only [fX13_columnRow_b96, fX13_columnRow_j137, dnB_eval, g_289_4 ck.1, pl, hc, if_false, v_289 ck.1, hcl, q, decide_true, if_true, (kr h0 _ k ck).2, b1, dnP, nI_1]
      · obtain ⟨y1, -, y3⟩ := co_n (j := j) (K := K) (n := coN ρ j m) (.inr ⟨_, e, q⟩)
        refine ⟨_, k, ?_, rfl, by rw [y3]; exact ck, fk⟩
        rw [y1]
        simp only [fX13_columnRow_b96, fX13_columnRow_j137, dnB_eval, g_289_4 ck.1, pl, hc, if_false, v_289 ck.1, hcl, q, decide_false, Bool.false_eq_true, dnP, nI_1]
  · rintro s k ⟨rfl, ck, fk⟩
    have pl : dnAI (some 291) 100 (nI G) k = some (nI m, k) := by rw [plr_A ck hG]; exact congrArg (fun z => some (z, k)) e1
    exact ⟨(), k, by simp only [fX13_columnRow_b96, dnB_eval, g_289_4 ck.1, pl, Int32.le_refl, if_true, dnP], ck, fk⟩
theorem coF_ok {B : Nat} {ρ : Nat → Option Rw} {m j : Nat} (hB : 16 ≤ B) (hm : m ≤ 6) (kds : ∀ p, p < m → ∀ R, ρ p = some R → rwOk B R) : rwOk B (coF ρ m j) := by
  have NL := coN_le (ρ := ρ) (j := j) m
  refine coR_ok (m := m) hB (lkd_lt _) (by omega) (fun p hp R e q => ?_) m (Nat.le_refl _)
  have o := kds p hp R e
  have o12 := o.2.1
  have hb := coS_bit e q (m - (p + 1))
  rw [show p + 1 + (m - (p + 1)) = m by omega] at hb
  exact ⟨(o.2.2 j (by omega)).1, lkd_tk hb (o.2.2 j (by omega)).1 (o.2.2 j (by omega)).2.1 (o.2.2 j (by omega)).2.2.1, (o.2.2 j (by omega)).2.2.2⟩
def tnT (A : Ab) (ρ : Nat → Option Rw) (m : Nat) : Nat → Ts
  | 0 => (A, [], sp0)
  | j + 1 => nxS (tnT A ρ m j) j (coF ρ m j)
/-- what a turn of the loop over a new grid leaves in the reference's list -/
theorem made_nx {T : Ts} {j : Nat} {R : Rw} {k : dnH} (hx : frN T.2.1 T.1 < 31) (hk : ∀ p, p < j → k.2.1 302 p = rc (T.2.2 p)) : ∀ p, p < j + 1 → (dnSI k 302 j (nI (frN T.2.1 T.1))).2.1 302 p = rc ((nxS T j R).2.2 p) := fun p hp => by
  show dnUp k.2.1 302 j (nI (frN T.2.1 T.1)) 302 p = rc (if p = j then nI (frN T.2.1 T.1) else T.2.2 p)
  by_cases q : p = j
  · subst q
    rw [dnUp_eq, if_pos rfl, rc_nI hx]
  · rw [dnUp_neK q, if_neg q]
    exact hk p (by omega)
theorem grid_open {B : Nat} {X : List Nat} {A : Ab} (w : Wf B X A) {G : Nat} (hG : G < 4) (h : ¬ A.1 G < 0) : ∃ m : Nat, m ≤ 6 ∧ A.1 G = nI m := by
  rcases w.1 G hG with e | e
  · rw [e] at h
    exact absurd (by decide) h
  · exact e
theorem step_turn {B : Nat} (hB : 16 ≤ B) (g h : Int32) : Step B B (fX11_transpose (some 268) g h) (fX13_turnDeed (some 289) g h) := by
  intro A w
  have z0 : (0 : Int32) ≤ 0 := by decide
  cases hg : inB g 0 3
  · exact step_ro (-1) w (fun h0 h c => by simp only [fX11_transpose, hg, dnB_eval, c_isGrid, c_isKind, c_isSort, c_isPlain, r_isGrid, r_isKind, r_isSort, r_isPlain, r_in, dnP, Bool.false_eq_true, if_false, if_true]) (fun q0 q r => by simp only [fX13_turnDeed, hg, dnB_eval, c_isGrid, c_isKind, c_isSort, c_isPlain, r_isGrid, r_isKind, r_isSort, r_isPlain, r_in, dnP, Bool.false_eq_true, if_false, if_true])
  cases hh2 : inB h 0 3
  · exact step_ro (-1) w (fun h0 h c => by simp only [fX11_transpose, hg, hh2, dnB_eval, c_isGrid, c_isKind, c_isSort, c_isPlain, r_isGrid, r_isKind, r_isSort, r_isPlain, r_in, dnP, Bool.false_eq_true, if_false, if_true]) (fun q0 q r => by simp only [fX13_turnDeed, hg, hh2, dnB_eval, c_isGrid, c_isKind, c_isSort, c_isPlain, r_isGrid, r_isKind, r_isSort, r_isPlain, r_in, dnP, Bool.false_eq_true, if_false, if_true])
  obtain ⟨G, hG, rfl⟩ := inB_of (n := 3) (by decide) hg
  obtain ⟨H, hH, rfl⟩ := inB_of (n := 3) (by decide) hh2
  have hG : G < 4 := by omega
  have hH : H < 4 := by omega
  by_cases hneg : A.1 G < 0
  · have hn2 : ¬ 0 ≤ A.1 G := Int32.not_le.mpr hneg
    exact step_ro (-2) w (fun h0 h c => by simp only [fX11_transpose, hg, hh2, g_268_0 c.1, sv (st1 c.1), gridFault_c c.1 hG, c.pl hG, hneg, show ¬ (0 : Int32) ≤ -2 by decide, dnB_eval, c_isGrid, c_isKind, c_isSort, c_isPlain, r_isGrid, r_isKind, r_isSort, r_isPlain, r_in, dnP, Bool.false_eq_true, if_false, if_true]) (fun q0 k r => by simp only [fX13_turnDeed, hg, hh2, g_289_4 r.1, plr_A r hG, hn2, dnB_eval, c_isGrid, c_isKind, c_isSort, c_isPlain, r_isGrid, r_isKind, r_isSort, r_isPlain, r_in, dnP, Bool.false_eq_true, if_false, if_true])
  have hn2 : 0 ≤ A.1 G := Int32.not_lt.mp hneg
  obtain ⟨m, hm, e1⟩ := grid_open w hG hneg
  have LL := lw_le w hG hm e1 m (Nat.le_refl _)
  have g6 : (nI (lw (fun p => gv A (6 * G + p)) m) ≤ 6) ↔ lw (fun p => gv A (6 * G + p)) m ≤ 6 := nI_leI (b := 6) (by omega) (by decide)
  by_cases hF : lw (fun p => gv A (6 * G + p)) m ≤ 6
  case neg => exact step_ro (-10) w (fun h0 h c => by simp only [fX11_transpose, hg, hh2, g_268_0 c.1, sv (st1 c.1), gridFault_c c.1 hG, c.pl hG, hneg, z0, longest_c w hG hm e1 c, g6, hF, dnB_eval, c_isGrid, c_isKind, c_isSort, c_isPlain, r_isGrid, r_isKind, r_isSort, r_isPlain, r_in, dnP, Bool.false_eq_true, if_false, if_true]) (fun q0 k r => by simp only [fX13_turnDeed, hg, hh2, g_289_4 r.1, plr_A r hG, hn2, v_289 r.1, longest_r w hG hm e1 r, g6, hF, dnB_eval, c_isGrid, c_isKind, c_isSort, c_isPlain, r_isGrid, r_isKind, r_isSort, r_isPlain, r_in, dnP, Bool.false_eq_true, if_false, if_true])
  have kds : ∀ p, p < m → ∀ R, gv A (6 * G + p) = some R → rwOk B R := fun p hp R e => by
    rcases gv_A w hG hm e1 hp with ⟨e2, -⟩ | ⟨r, hr, e2, -, -, o, -⟩
    · rw [e] at e2; cases e2
    · rw [e] at e2; cases e2; exact o
  have gi : ∀ j, j ≤ 6 → GI B A (tnT A (fun p => gv A (6 * G + p)) m j) j := by
    intro j
    induction j with
    | zero => exact fun _ => gi_0 w
    | succ j ih => exact fun hj => gi_next (ih (by omega)) (by omega) (coF_ok hB hm kds)
  have lc := fun h0 h (c : CS h0 sp0 [] h A) => longest_c w hG hm e1 c
  have lr := fun q0 k (r : RS q0 [] k A) => longest_r w hG hm e1 r
  generalize lw (fun p => gv A (6 * G + p)) m = W at LL g6 hF lc lr
  have gve : ∀ j, j ≤ 6 → ∀ p, p < m → gv (tnT A (fun p => gv A (6 * G + p)) m j).1 (6 * G + p) = gv A (6 * G + p) := fun j hj p hp => gi_gv (gi j hj) (by omega) w
  have me : ∀ j, j ≤ 6 → (tnT A (fun p => gv A (6 * G + p)) m j).1.1 G = nI m := fun j hj => by rw [(gi j hj).2.2.2.2.2.1]; exact e1
  refine ⟨nI W, gridOf (tnT A (fun p => gv A (6 * G + p)) m W).1 H (nI W) (tnT A (fun p => gv A (6 * G + p)) m W).2.2, gi_wf (gi W hF) hF, fun h0 h c => ?_, fun q0 k r' => ?_⟩
  · obtain ⟨a1, c1, a2⟩ := startGrid_A (v := nI W) c
    have KK := it_inv (f := fX11_transpose_b63 (some 268) (nI G) (nI H) (nI W)) (Q := fun _ k => CS h0 (tnT A (fun p => gv A (6 * G + p)) m W).2.2 (tnT A (fun p => gv A (6 * G + p)) m W).2.1 k (tnT A (fun p => gv A (6 * G + p)) m W).1 ∧ k.2.1 2 4 = nI W) (fun j s k => s = nI j ∧ CS h0 (tnT A (fun p => gv A (6 * G + p)) m j).2.2 (tnT A (fun p => gv A (6 * G + p)) m j).2.1 k (tnT A (fun p => gv A (6 * G + p)) m j).1 ∧ k.2.1 2 4 = nI W) W 1000 0 (by omega) (by omega) ?_ ?_ (nI 0) (dnSI h 2 4 (nI W)) ⟨rfl, c1, a2⟩
    · obtain ⟨_, h2, b1, c2, b2⟩ := KK
      rw [nI_0] at b1
      obtain ⟨h3, d1, c3⟩ := gi_cls (gi W hF) hH c2 b2
      refine ⟨h3, ?_, c3⟩
      simp only [fX11_transpose, hg, hh2, g_268_0 c.1, sv (st1 c.1), gridFault_c c.1 hG, c.pl hG, hneg, z0, lc h0 h c, g6, hF, a1, b1, g_268_0 c2.1, sv (st1 c2.1), d1, dnB_eval, c_isGrid, c_isKind, c_isSort, c_isPlain, r_isGrid, r_isKind, r_isSort, r_isPlain, r_in, dnP, Bool.false_eq_true, if_false, if_true]
    · rintro j s k hj ⟨rfl, ck, fk⟩
      left
      have hc : ¬ (nI W ≤ nI j) := fun hc => by have := (nI_leI (a := W) (b := j) (by omega) (by omega)).mp hc; omega
      obtain ⟨k2, b1, b2, b3⟩ := col_c (j := j) hB (gi j (by omega)).1 hG hm (by omega) (me j (by omega)) (gve j (by omega)) (gi j (by omega)).2.2.1 (gi_fr (gi j (by omega)) (by omega)) ck
      refine ⟨nI (j + 1), k2, ?_, rfl, b2, by rw [b3]; exact fk⟩
      simp only [fX11_transpose_b63, hc, if_false, dnB_eval, v_268 ck.1, b1, dnP, nI_1]
    · rintro s k ⟨rfl, ck, fk⟩
      exact ⟨(), k, by simp only [fX11_transpose_b63, Int32.le_refl, if_true, dnP], ck, fk⟩
  · have KK := it_inv (f := fX13_turnDeed_b46 (some 289) (nI G) (nI H) (nI W)) (Q := fun _ k => RS q0 (tnT A (fun p => gv A (6 * G + p)) m W).2.1 k (tnT A (fun p => gv A (6 * G + p)) m W).1 ∧ ∀ p, p < W → k.2.1 302 p = rc ((tnT A (fun p => gv A (6 * G + p)) m W).2.2 p)) (fun j s k => s = nI j ∧ RS q0 (tnT A (fun p => gv A (6 * G + p)) m j).2.1 k (tnT A (fun p => gv A (6 * G + p)) m j).1 ∧ ∀ p, p < j → k.2.1 302 p = rc ((tnT A (fun p => gv A (6 * G + p)) m j).2.2 p)) W 1000 0 (by omega) (by omega) ?_ ?_ (nI 0) k ⟨rfl, r', fun p hp => by omega⟩
    · obtain ⟨_, k2, b1, r2, b2⟩ := KK
      rw [nI_0] at b1
      obtain ⟨k3, d1, r3⟩ := gi_ref (gi W hF) hH hF r2 b2
      refine ⟨k3, _, ?_, r3⟩
      simp only [fX13_turnDeed, hg, hh2, g_289_4 r'.1, plr_A r' hG, hn2, v_289 r'.1, lr q0 k r', g6, hF, b1, v_289 r2.1, d1, dnB_eval, c_isGrid, c_isKind, c_isSort, c_isPlain, r_isGrid, r_isKind, r_isSort, r_isPlain, r_in, dnP, Bool.false_eq_true, if_false, if_true]
    · rintro j s k hj ⟨rfl, rk, fk⟩
      left
      have hc : ¬ (nI W ≤ nI j) := fun hc => by have := (nI_leI (a := W) (b := j) (by omega) (by omega)).mp hc; omega
      have hf := gi_fr (gi j (by omega)) (show j ≤ 6 by omega)
      obtain ⟨k2, b1, b2, b3⟩ := col_r (j := j) hB (gi j (by omega)).1 hG hm (by omega) (me j (by omega)) (gve j (by omega)) hf rk
      obtain ⟨d1, r3⟩ := made_A (p := j) (v := nI (frN (tnT A (fun p => gv A (6 * G + p)) m j).2.1 (tnT A (fun p => gv A (6 * G + p)) m j).1)) b2 (by omega)
      refine ⟨nI (j + 1), _, ?_, rfl, r3, made_nx hf.1 (fun p hp => by rw [b3]; exact fk p hp)⟩
      simp only [fX13_turnDeed_b46, hc, if_false, dnB_eval, g_289_18 rk.1, v_289 rk.1, b1, d1, dnP, nI_1]
    · rintro s k ⟨rfl, rk, fk⟩
      exact ⟨(), k, by simp only [fX13_turnDeed_b46, Int32.le_refl, if_true, dnP], rk, fk⟩

theorem call_turn {B : Nat} (hB : 16 ≤ B) (g h : Int32) : Call B B (fX12_turn (some 0) g h) (fX13_turn (some 289) g h) :=
  callA (Nat.le_refl _) (fun h v h1 s1 s2 e => by simp only [fX12_turn, dnB_eval, g_0_5 s1, v_268 s1, e, v_0 s2, tally_c s2, dnP]) (fun h v h1 s1 s2 e => by simp only [fX13_turn, dnB_eval, v_289 s1, e, v_289 s2, said_r s2, dnP]) (step_turn hB g h)
