/-! ABS 36: order -/
theorem lkC_pl {B a : Nat} {c c2 : Cel} (h1 : c.1 = a) (h2 : c2.1 = a) (v1 : valOk B c.1 c.2.1 c.2.2) (v2 : valOk B c2.1 c2.2.1 c2.2.2) : lkC c c2 = (decide (c.2.1 = c2.2.1) && dEq c.2.2 c2.2.2) := by
  unfold lkC lk
  rw [h1, h2]
  rw [h1] at v1
  rw [h2] at v2
  cases q : isRlN a
  · rw [v1.2.2.1 q, v2.2.2.1 q, show dEq FP.dconst0 FP.dconst0 = true by decide +kernel]
    cases numN a
    · simp
    · simp
  · have e : numN a = true := by
      have k67 : a = 6 ∨ a = 7 := by simpa [isRlN] using q
      rcases k67 with k | k <;> rw [k] <;> rfl
    rw [v1.2.2.2.1 q, v2.2.2.2.1 q, e]
    unfold cvD
    rw [q]
    simp
def srR (Q : Rw) (P : Nat → Nat) (i : Nat) : Rw := (Q.1, Q.2.1, fun t => if t < i then Q.2.2 (P t) else Q.2.2 t)
def inR (Q : Rw) (P : Nat → Nat) (i s : Nat) : Rw := (Q.1, Q.2.1, fun t => if t < s then Q.2.2 (P t) else if t = s then (if s = i then Q.2.2 i else Q.2.2 (P s)) else if t ≤ i then Q.2.2 (P (t - 1)) else Q.2.2 t)
theorem rw_ext {R Q : Rw} (h1 : R.1 = Q.1) (h2 : R.2.1 = Q.2.1) (h3 : ∀ t, R.2.2 t = Q.2.2 t) : R = Q := by
  obtain ⟨a, b, f⟩ := R
  obtain ⟨a2, b2, f2⟩ := Q
  have : f = f2 := funext h3
  subst this
  cases h1
  cases h2
  rfl
theorem inR_i {Q : Rw} {P : Nat → Nat} {i : Nat} : inR Q P i i = srR Q P i := rw_ext rfl rfl (fun t => by
  show (if t < i then _ else if t = i then _ else if t ≤ i then _ else _) = (if t < i then _ else _)
  by_cases q : t < i
  · rw [if_pos q, if_pos q]
  · rw [if_neg q, if_neg q]
    by_cases q2 : t = i
    · rw [if_pos q2, if_pos rfl, q2]
    · rw [if_neg q2, if_neg (by omega)])
theorem inR_s {Q : Rw} {P : Nat → Nat} {i s : Nat} (h1 : 1 ≤ s) (h2 : s ≤ i) : setC (inR Q P i s) s (Q.2.2 (P (s - 1))) = inR Q P i (s - 1) := rw_ext rfl rfl (fun t => by
  show (if t = s then _ else if t < s then _ else if t = s then _ else if t ≤ i then _ else _) = (if t < s - 1 then _ else if t = s - 1 then (if s - 1 = i then _ else _) else if t ≤ i then _ else _)
  by_cases q : t = s
  · rw [if_pos q, if_neg (by omega), if_neg (by omega), if_pos (by omega), q]
  · rw [if_neg q]
    by_cases q2 : t < s
    · rw [if_pos q2]
      by_cases q3 : t < s - 1
      · rw [if_pos q3]
      · rw [if_neg q3, if_pos (by omega), if_neg (by omega), show t = s - 1 by omega]
    · rw [if_neg q2, if_neg q, if_neg (show ¬ t < s - 1 by omega), if_neg (show ¬ t = s - 1 by omega)])
theorem inR_e {Q : Rw} {P : Nat → Nat} {i s : Nat} (h2 : s ≤ i) : setC (inR Q P i s) s (Q.2.2 i) = srR Q (insP P s i) (i + 1) := rw_ext rfl rfl (fun t => by
  show (if t = s then _ else if t < s then _ else if t = s then _ else if t ≤ i then _ else _) = (if t < i + 1 then Q.2.2 (if t < s then _ else if t = s then _ else _) else _)
  by_cases q : t = s
  · rw [if_pos q, if_pos (by omega), if_neg (by omega), if_pos q]
  · rw [if_neg q]
    by_cases q2 : t < s
    · rw [if_pos q2, if_pos (by omega), if_pos q2]
    · rw [if_neg q2, if_neg q, if_neg q2, if_neg q]
      by_cases q3 : t ≤ i
      · rw [if_pos q3, if_pos (by omega)]
      · rw [if_neg q3, if_neg (by omega)])
theorem inR_c {Q : Rw} {P : Nat → Nat} {i s t : Nat} (hP : ∀ t, t < i → P t < i) (hs : s ≤ i) (hi : i < 12) (ht : t < 12) : ∃ u, u < 12 ∧ (inR Q P i s).2.2 t = Q.2.2 u := by
  show ∃ u, u < 12 ∧ (if t < s then Q.2.2 (P t) else if t = s then (if s = i then Q.2.2 i else Q.2.2 (P s)) else if t ≤ i then Q.2.2 (P (t - 1)) else Q.2.2 t) = Q.2.2 u
  split
  · exact ⟨P t, by have := hP t (by omega); omega, rfl⟩
  · split
    · split
      · exact ⟨i, hi, rfl⟩
      · exact ⟨P s, by have := hP s (by omega); omega, rfl⟩
    · split
      · exact ⟨P (t - 1), by have := hP (t - 1) (by omega); omega, rfl⟩
      · exact ⟨t, ht, rfl⟩
theorem nI_dec {s : Nat} (h : 1 ≤ s) : nI s + (-1) = nI (s - 1) := by
  rw [← nI_sub1 h, Int32.sub_eq_add_neg]
theorem insert_A {B : Nat} (hB : 16 ≤ B) {h0 h : dnH} {A : Ab} {r i : Nat} {P : Nat → Nat} (hr : r < 31) (hl : live [] A r) (hrw : rwOk B (A.2.2.1 r)) (hk8 : (A.2.2.1 r).1 < 8) (hi : i < (A.2.2.1 r).2.1) (c : CS h0 sp0 [] h (setR A r (srR (A.2.2.1 r) P i))) (ha : RwH h 264 (A.2.2.1 r)) (S : Srt (fun j => kz ((A.2.2.1 r).2.2 j)) i P) : ∃ h2 P2, fX6_insert (some 259) (some (5 + 4 * r)) (nI i) h = some ((), h2) ∧ CS h0 sp0 [] h2 (setR A r (srR (A.2.2.1 r) P2 (i + 1))) ∧ RwH h2 264 (A.2.2.1 r) ∧ Srt (fun j => kz ((A.2.2.1 r).2.2 j)) (i + 1) P2 := by
  have N1 := hrw.2.1
  have srt : ∀ t, t < 12 → ((A.2.2.1 r).2.2 t).1 = (A.2.2.1 r).1 := fun t ht => (hrw.2.2 t ht).2.2.1 hk8
  rw [← inR_i] at c
  have rr := c.row hr hl
  rw [setR_at] at rr
  have rk : h.2.1 (5 + 4 * r) 1 = nI (A.2.2.1 r).1 := rr.1
  obtain ⟨h1, a1, a2, a3⟩ := begin_A (n := 1) (rw260 c.1) hrw.1
  have a1 : fX5_begin (some 260) (nI (A.2.2.1 r).1) 1 h = some ((), h1) := a1
  have c1 := c.hand (by decide) (by decide) a2
  have ha1 := a2.row (by omega) ha
  have rr1 := c1.row hr hl
  rw [setR_at] at rr1
  have ei : (inR (A.2.2.1 r) P i i).2.2 i = (A.2.2.1 r).2.2 i := by
    rw [inR_i]
    exact if_neg (by omega)
  have oki := hrw.2.2 i (by omega)
  obtain ⟨h2, b1, b2, b3⟩ := accept_A (B := B) (i := 0) (j := i) (rw260 c1.1) (row1 c1.1 hr) a3 rr1 (by decide) (by omega) hrw.1 (celOk_new hB hrw.1) (by rw [ei]; exact oki.1) (by rw [ei]; exact oki.2.2.2) (fun e => by omega)
  rw [ei] at b1 b3
  have b3 : RwH h2 260 (if tk (A.2.2.1 r).1 ((A.2.2.1 r).2.2 i).1 = true then setC (newR (A.2.2.1 r).1 1) 0 (cvt (A.2.2.1 r).1 ((A.2.2.1 r).2.2 i)) else _) := b3
  rw [if_pos oki.2.1, cvt_self oki] at b3
  rw [nI_0] at b1
  have c2 := c1.hand (by decide) (by decide) b2
  have ha2 := b2.row (by omega) ha1
  have KK := it_inv (f := fX6_insert_b25 (some 259) (some (5 + 4 * r))) (Q := fun s k => ∃ s0, s = nI s0 ∧ s0 ≤ i ∧ CS h0 sp0 [] k (setR A r (inR (A.2.2.1 r) P i s0)) ∧ RwH k 260 (setC (newR (A.2.2.1 r).1 1) 0 ((A.2.2.1 r).2.2 i)) ∧ RwH k 264 (A.2.2.1 r) ∧ (∀ t, t < s0 → (fun j => kz ((A.2.2.1 r).2.2 j)) (P t) ≤ (fun j => kz ((A.2.2.1 r).2.2 j)) i) ∧ ∀ t, s0 ≤ t → t < i → (fun j => kz ((A.2.2.1 r).2.2 j)) i < (fun j => kz ((A.2.2.1 r).2.2 j)) (P t)) (fun j s k => s = nI (i - j) ∧ CS h0 sp0 [] k (setR A r (inR (A.2.2.1 r) P i (i - j))) ∧ RwH k 260 (setC (newR (A.2.2.1 r).1 1) 0 ((A.2.2.1 r).2.2 i)) ∧ RwH k 264 (A.2.2.1 r) ∧ ∀ t, i - j ≤ t → t < i → (fun j => kz ((A.2.2.1 r).2.2 j)) i < (fun j => kz ((A.2.2.1 r).2.2 j)) (P t)) i 1000 0 (by omega) (by omega) ?_ ?_ (nI i) h2 ⟨rfl, c2, b3, ha2, fun t ht hu => by omega⟩
  · obtain ⟨_, h3, d1, s0, rfl, hs, c3, hh3, ha3, lo, hi2⟩ := KK
    have rr3 := c3.row hr hl
    rw [setR_at] at rr3
    obtain ⟨u, hu, eu⟩ := inR_c (Q := A.2.2.1 r) S.1 hs (show i < 12 by omega) (show s0 < 12 by omega)
    obtain ⟨h4, f1, f2, f3⟩ := accept_A (B := B) (i := s0) (j := 0) (row1 c3.1 hr) (rw260 c3.1) rr3 hh3 (by omega) (by decide) hrw.1 (by rw [eu]; exact hrw.2.2 u hu) oki.1 oki.2.2.2 (fun e => by omega)
    have f3 : RwH h4 (5 + 4 * r) (if tk (A.2.2.1 r).1 ((A.2.2.1 r).2.2 i).1 = true then setC (inR (A.2.2.1 r) P i s0) s0 (cvt (A.2.2.1 r).1 ((A.2.2.1 r).2.2 i)) else _) := f3
    rw [if_pos oki.2.1, cvt_self oki, inR_e hs] at f3
    rw [nI_0] at f1
    have c4 := c3.setRow (Y := []) hr (fun m hm => .inr hm) f2 f3
    rw [setR_setR] at c4
    refine ⟨h4, insP P s0 i, ?_, c4, f2.row (by omega) ha3, srt_step S hs lo hi2⟩
    simp only [fX6_insert, fX6_insert_j60, dnB_eval, g_259_2 c.1, rg_i (row1 c.1 hr), rk, rv (rw260 c.1), a1, g_259_2 c1.1, rv (rw260 c1.1), b1, d1, g_259_2 c3.1, rv (row1 c3.1 hr), f1, dnP]
  · rintro j s k hj ⟨rfl, ck, hh, ha3, hi2⟩
    have z0 : ¬ nI (i - j) ≤ 0 := fun hc => by have := (nI_leI (a := i - j) (b := 0) (by omega) (by omega)).mp hc; omega
    have rrk := ck.row hr hl
    rw [setR_at] at rrk
    have ec : (inR (A.2.2.1 r) P i (i - j)).2.2 (i - j - 1) = (A.2.2.1 r).2.2 (P (i - j - 1)) := if_pos (by omega)
    have hp := S.1 (i - j - 1) (by omega)
    have okp := hrw.2.2 (P (i - j - 1)) (by omega)
    have ex := exceeds_A (j := 0) (row1 ck.1 hr) (rw260 ck.1) rrk hh (show i - j - 1 < 12 by omega) (by decide) (by rw [ec]; exact okp.1)
    rw [ec] at ex
    have ex : fX5_exceeds (some (5 + 4 * r)) (nI (i - j - 1)) (some 260) 0 k = some (gtC ((A.2.2.1 r).2.2 (P (i - j - 1))) ((A.2.2.1 r).2.2 i), k) := ex
    rw [gtC_z (srt _ (by omega)) (srt i (by omega)) okp.2.2.2 oki.2.2.2] at ex
    by_cases q : kz ((A.2.2.1 r).2.2 i) < kz ((A.2.2.1 r).2.2 (P (i - j - 1)))
    · left
      rw [decide_eq_true q] at ex
      obtain ⟨u, hu, eu⟩ := inR_c (Q := A.2.2.1 r) S.1 (show i - j ≤ i by omega) (show i < 12 by omega) (show i - j < 12 by omega)
      obtain ⟨h4, f1, f2, f3⟩ := accept_A (B := B) (i := i - j) (j := i - j - 1) (row1 ck.1 hr) (row1 ck.1 hr) rrk rrk (by omega) (by omega) hrw.1 (by rw [eu]; exact hrw.2.2 u hu) (by rw [ec]; exact okp.1) (by rw [ec]; exact okp.2.2.2) (fun _ e => by omega)
      rw [ec] at f1 f3
      have f3 : RwH h4 (5 + 4 * r) (if tk (A.2.2.1 r).1 ((A.2.2.1 r).2.2 (P (i - j - 1))).1 = true then setC (inR (A.2.2.1 r) P i (i - j)) (i - j) (cvt (A.2.2.1 r).1 ((A.2.2.1 r).2.2 (P (i - j - 1)))) else _) := f3
      rw [if_pos okp.2.1, cvt_self okp, inR_s (by omega) (by omega)] at f3
      have c4 := ck.setRow (Y := []) hr (fun m hm => .inr hm) f2 f3
      rw [setR_setR] at c4
      refine ⟨nI (i - j - 1), h4, ?_, rfl, c4, f2.row (by omega) hh, f2.row (by omega) ha3, fun t ht hu => ?_⟩
      · simp only [fX6_insert_b25, z0, if_false, dnB_eval, g_259_2 ck.1, nI_sub1 (show 1 ≤ i - j by omega), rv (row1 ck.1 hr), ex, if_true, f1, dnP, nI_dec (show 1 ≤ i - j by omega)]
      · by_cases q2 : t = i - j - 1
        · rw [q2]; exact q
        · exact hi2 t (by omega) hu
    · right
      rw [decide_eq_false q] at ex
      refine ⟨nI (i - j), k, ?_, i - j, rfl, by omega, ck, hh, ha3, fun t ht => ?_, hi2⟩
      · simp only [fX6_insert_b25, z0, if_false, dnB_eval, g_259_2 ck.1, nI_sub1 (show 1 ≤ i - j by omega), rv (row1 ck.1 hr), ex, Bool.false_eq_true, dnP]
      · have := S.2.2.2.1 t (i - j - 1) (by omega) (by omega)
        dsimp only at this ⊢
        omega
  · rintro s k ⟨rfl, ck, hh, ha3, hi2⟩
    rw [Nat.sub_self] at ck hi2
    refine ⟨nI 0, k, by simp only [fX6_insert_b25, Nat.sub_self, nI_0, Int32.le_refl, if_true, dnP], 0, rfl, by omega, ck, hh, ha3, fun t ht => by omega, hi2⟩

theorem isBehind_A {B a : Nat} {h0 h : dnH} {X : List Nat} {A : Ab} {Q : Rw} {i j : Nat} (c : RS h0 X h A) (hb : ByIs h Q) (hi : i < 12) (hj : j < 12) (h1 : (Q.2.2 i).1 = a) (h2 : (Q.2.2 j).1 = a) (v1 : valOk B (Q.2.2 i).1 (Q.2.2 i).2.1 (Q.2.2 i).2.2) (v2 : valOk B (Q.2.2 j).1 (Q.2.2 j).2.1 (Q.2.2 j).2.2) : fX13_isBehind (some 289) (nI i) (nI j) h = some (decide (kz (Q.2.2 j) < kz (Q.2.2 i)), h) := by
  rw [← gtC_z h1 h2 v1 v2, ← gt_or h1 h2 v1 v2]
  obtain ⟨-, x2, x3⟩ := hb i hi
  obtain ⟨-, y2, y3⟩ := hb j hj
  simp only [fX13_isBehind, fX13_isBehind_j32, dnB_eval, g_289_16 c.1, g_289_17 c.1, a_300 c.1, a_301 c.1, dnIn_nI hi (by decide), dnIn_nI hj (by decide), nI_clamp (show i < 2 ^ 31 by omega), nI_clamp (show j < 2 ^ 31 by omega), if_true, x2, x3, y2, y3]
  by_cases q : (Q.2.2 j).2.1 < (Q.2.2 i).2.1
  · have q1 : 0 < lg_cmp (Q.2.2 i).2.1 (Q.2.2 j).2.1 := by
      rw [← Int32.not_le, lg_cmp_le, Int64.not_le]
      exact q
    rw [if_pos q1, decide_eq_true q]
    rfl
  · have q1 : ¬ 0 < lg_cmp (Q.2.2 i).2.1 (Q.2.2 j).2.1 := by
      rw [← Int32.not_le, lg_cmp_le, Int64.not_le]
      exact q
    rw [if_neg q1, decide_eq_false q, Bool.false_or]
    simp only [dnB_eval, g_289_17 c.1, a_301 c.1, dnIn_nI hi (by decide), dnIn_nI hj (by decide), nI_clamp (show i < 2 ^ 31 by omega), nI_clamp (show j < 2 ^ 31 by omega), if_true, x3, y3]
    unfold dGt
    by_cases q2 : Op.cmpValue (FP.dcmp (Q.2.2 i).2.2 (Q.2.2 j).2.2) .l ≤ 0
    · rw [if_pos q2, decide_eq_false (not_not_intro q2)]
      rfl
    · rw [if_neg q2, decide_eq_true q2]
      rfl
def rkR (Q : Rw) (P : Nat → Nat) (m : Nat) : Rw := (Q.1, Q.2.1, fun t => if t < Q.2.1 ∧ P t < m then Q.2.2 (P t) else Q.2.2 t)
theorem step_order {B : Nat} (hB : 16 ≤ B) (g p : Int32) : Step B B (fX6_sortRow (some 259) g p) (fX13_orderDeed (some 289) g p) := by
  intro A w
  cases hg : inB g 0 3
  · rcases lookR w g p with ⟨f, f0, f1, f2, f3⟩ | ⟨G, P, m, r, hG, hP, hm, hr, rfl, rfl, e1, e2, hb, _⟩
    · rw [f1 hg] at f2
      exact step_ro (-1) w (fun h0 h c => by simp only [fX6_sortRow, hg, g_259_0 c.1, sv (st1 c.1), (f2 h0 _ _ h c).1, (f2 h0 _ _ h c).2, Option.elim, dnB_eval, c_isGrid, c_isKind, c_isSort, c_isPlain, r_isGrid, r_isKind, r_isSort, r_isPlain, r_in, dnP, Bool.false_eq_true, if_false, if_true]) (fun q0 q r => by simp only [fX13_orderDeed, hg, dnB_eval, c_isGrid, c_isKind, c_isSort, c_isPlain, r_isGrid, r_isKind, r_isSort, r_isPlain, r_in, dnP, Bool.false_eq_true, if_false, if_true])
    · rw [hg] at hb
      cases hb
  rcases lookR w g p with ⟨f, f0, -, f2, f3⟩ | ⟨G, P, m, r, hG, hP, hm, hr, rfl, rfl, e1, e2, -, hl, -, hrw, l1, l2⟩
  · obtain ⟨n1, n2⟩ := neg_fault f0
    exact step_ro f w (fun h0 h c => by simp only [fX6_sortRow, g_259_0 c.1, sv (st1 c.1), (f2 h0 _ _ h c).1, (f2 h0 _ _ h c).2, Option.elim, dnB_eval, c_isGrid, c_isKind, c_isSort, c_isPlain, r_isGrid, r_isKind, r_isSort, r_isPlain, r_in, dnP, Bool.false_eq_true, if_false, if_true]) (fun q0 q r => by simp only [fX13_orderDeed, hg, v_289 r.1, f3 hg q0 _ q r, n1, dnB_eval, c_isGrid, c_isKind, c_isSort, c_isPlain, r_isGrid, r_isKind, r_isSort, r_isPlain, r_in, dnP, Bool.false_eq_true, if_false, if_true])
  have N1 := hrw.2.1
  by_cases hk8 : (A.2.2.1 r).1 < 8
  case neg =>
    have hp := plain_nI hrw.1
    rw [decide_eq_false hk8] at hp
    exact step_ro (-7) w (fun h0 h c => by simp only [fX6_sortRow, g_259_0 c.1, sv (st1 c.1), l1 h0 _ _ h c, Option.elim, rg_i (row1 c.1 hr), (c.row hr hl).1, hp, dnB_eval, c_isGrid, c_isKind, c_isSort, c_isPlain, r_isGrid, r_isKind, r_isSort, r_isPlain, r_in, dnP, Bool.false_eq_true, if_false, if_true]) (fun q0 k r' => by simp only [fX13_orderDeed, hg, v_289 r'.1, (l2 q0 _ k r').1, (l2 q0 _ k r').2, g_289_6 r'.1, kind_A r' hr hl, hp, dnB_eval, c_isGrid, c_isKind, c_isSort, c_isPlain, r_isGrid, r_isKind, r_isSort, r_isPlain, r_in, dnP, Bool.false_eq_true, if_false, if_true])
  have hp := plain_nI hrw.1
  rw [decide_eq_true hk8] at hp
  have srt : ∀ t, t < 12 → ((A.2.2.1 r).2.2 t).1 = (A.2.2.1 r).1 := fun t ht => (hrw.2.2 t ht).2.2.1 hk8
  obtain ⟨P0, S0⟩ := srt_ex (fun j => kz ((A.2.2.1 r).2.2 j)) (A.2.2.1 r).2.1
  have uq : ∀ P2, Srt (fun j => kz ((A.2.2.1 r).2.2 j)) (A.2.2.1 r).2.1 P2 → srR (A.2.2.1 r) P2 (A.2.2.1 r).2.1 = srR (A.2.2.1 r) P0 (A.2.2.1 r).2.1 := fun P2 S2 => rw_ext rfl rfl (fun t => by
    show (if t < _ then _ else _) = if t < _ then _ else _
    split
    · rename_i ht
      rw [srt_uniq S2 S0 t ht]
    · rfl)
  let T : Rw := srR (A.2.2.1 r) P0 (A.2.2.1 r).2.1
  have Tl : T.2.1 = (A.2.2.1 r).2.1 := rfl
  have Tc : ∀ t, t < (A.2.2.1 r).2.1 → T.2.2 t = (A.2.2.1 r).2.2 (P0 t) := fun t ht => if_pos ht
  have okT : rwOk B T := ⟨hrw.1, hrw.2.1, fun t ht => by
    show celOk B _ (if t < _ then _ else _)
    split
    · rename_i hq
      have := S0.1 t hq
      exact hrw.2.2 _ (by omega)
    · exact hrw.2.2 t ht⟩
  let F : Nat → Bool := fun t => !lkC (T.2.2 t) ((A.2.2.1 r).2.2 t)
  refine ⟨aI F (A.2.2.1 r).2.1, setR A r T, w.setR (fun m hm => .inr hm) okT, fun h0 h c => ?_, fun q0 k r' => ?_⟩
  · obtain ⟨h1, a1, a2, a3⟩ := copyFrom_A (rw264 c.1) (row1 c.1 hr) (c.row hr hl) (by omega)
    have c1 := c.hand (by decide) (by decide) a2
    have first : ∃ h2, dnIt 1000 (fX6_sortRow_b48 (some 259) (some (5 + 4 * r))) 1 h1 = some ((), h2) ∧ CS h0 sp0 [] h2 (setR A r T) ∧ RwH h2 264 (A.2.2.1 r) := by
      by_cases n0 : (A.2.2.1 r).2.1 = 0
      · refine ⟨h1, ?_, ?_, a3⟩
        · have hz : nI (A.2.2.1 r).2.1 ≤ 1 := by rw [n0]; decide
          exact dnIt_run (f := fX6_sortRow_b48 (some 259) (some (5 + 4 * r))) (q := ()) (hq := h1) 0 1000 (fun _ => (1, h1)) (by omega) (fun i hi => by omega) (by simp only [fX6_sortRow_b48, dnB_eval, rg_i (row1 c1.1 hr), (c1.row hr hl).2.1, hz, if_true, dnP])
        · have : T = A.2.2.1 r := rw_ext rfl rfl (fun t => if_neg (by omega))
          rw [this, setR_self]
          exact c1
      · have KK := it_inv (f := fX6_sortRow_b48 (some 259) (some (5 + 4 * r))) (Q := fun _ k => CS h0 sp0 [] k (setR A r T) ∧ RwH k 264 (A.2.2.1 r)) (fun j s k => s = nI j ∧ RwH k 264 (A.2.2.1 r) ∧ ∃ P, CS h0 sp0 [] k (setR A r (srR (A.2.2.1 r) P j)) ∧ Srt (fun j => kz ((A.2.2.1 r).2.2 j)) j P) (A.2.2.1 r).2.1 1000 1 (by omega) (by omega) ?_ ?_ (nI 1) h1 ⟨rfl, a3, insP id 0 0, ?_, srt_step (srt_0 _ id) (Nat.le_refl 0) (fun t ht => by omega) (fun t ht hu => by omega)⟩
        · obtain ⟨_, h2, b1, c2, b2⟩ := KK
          exact ⟨h2, b1, c2, b2⟩
        · rintro j s k hj ⟨rfl, hk, P, ck, S⟩
          left
          have hc : ¬ (nI (A.2.2.1 r).2.1 ≤ nI j) := fun hc => by have := (nI_leI (a := (A.2.2.1 r).2.1) (b := j) (by omega) (by omega)).mp hc; omega
          have rr := ck.row hr hl
          rw [setR_at] at rr
          have lr : k.2.1 (5 + 4 * r) 2 = nI (A.2.2.1 r).2.1 := rr.2.1
          obtain ⟨k2, P2, b1, c2, b2, S2⟩ := insert_A hB hr hl hrw hk8 hj ck hk S
          refine ⟨nI (j + 1), k2, ?_, rfl, b2, P2, c2, S2⟩
          simp only [fX6_sortRow_b48, dnB_eval, rg_i (row1 ck.1 hr), lr, hc, if_false, v_259 ck.1, b1, dnP, nI_1]
        · rintro s k ⟨rfl, hk, P, ck, S⟩
          have rr := ck.row hr hl
          rw [setR_at] at rr
          have lr : k.2.1 (5 + 4 * r) 2 = nI (A.2.2.1 r).2.1 := rr.2.1
          rw [uq P S] at ck
          exact ⟨(), k, by simp only [fX6_sortRow_b48, dnB_eval, rg_i (row1 ck.1 hr), lr, Int32.le_refl, if_true, dnP], ck, hk⟩
        · have : srR (A.2.2.1 r) (insP id 0 0) 1 = A.2.2.1 r := rw_ext rfl rfl (fun t => by
            show (if t < 1 then (A.2.2.1 r).2.2 (if t < 0 then _ else if t = 0 then 0 else _) else _) = _
            split
            · rw [if_neg (by omega), if_pos (by omega), show t = 0 by omega]
            · rfl)
          rw [this, setR_self]
          exact c1
    obtain ⟨h2, b1, c2, b2⟩ := first
    have rr := c2.row hr hl
    rw [setR_at] at rr
    have lr : h2.2.1 (5 + 4 * r) 2 = nI (A.2.2.1 r).2.1 := rr.2.1
    have key := dnIt_run (f := fX6_sortRow_b76 (some 259) (some (5 + 4 * r))) (q := aI F (A.2.2.1 r).2.1) (hq := h2) (A.2.2.1 r).2.1 1000 (fun i => ((aI F i, nI i), h2)) (by omega) (fun i hi => by
      have hc : ¬ (nI (A.2.2.1 r).2.1 ≤ nI i) := fun hc => by have := (nI_leI (a := (A.2.2.1 r).2.1) (b := i) (by omega) (by omega)).mp hc; omega
      have mt := matches_A (i := i) (j := i) (row1 c2.1 hr) (rw264 c2.1) rr b2 (by omega) (by omega) (okT.2.2 i (by omega)).1 (hrw.2.2 i (by omega)).1
      show _ = some (Sum.inl (aI F i + dnZ (!lkC (T.2.2 i) ((A.2.2.1 r).2.2 i)), nI (i + 1)), h2)
      simp only [fX6_sortRow_b76, fX6_sortRow_j107, dnB_eval, rg_i (row1 c2.1 hr), lr, hc, if_false, g_259_3 c2.1, rv (row1 c2.1 hr), mt, dnP, nI_1]
      cases lkC (T.2.2 i) ((A.2.2.1 r).2.2 i) <;> rfl) (by simp only [fX6_sortRow_b76, dnB_eval, rg_i (row1 c2.1 hr), lr, Int32.le_refl, if_true, dnP])
    have key : dnIt 1000 (fX6_sortRow_b76 (some 259) (some (5 + 4 * r))) (0, 0) h2 = some (aI F (A.2.2.1 r).2.1, h2) := key
    refine ⟨h2, ?_, c2⟩
    simp only [fX6_sortRow, g_259_0 c.1, g_259_3 c.1, sv (st1 c.1), l1 h0 _ _ h c, Option.elim, rg_i (row1 c.1 hr), (c.row hr hl).1, hp, rv (rw264 c.1), a1, b1, key, dnB_eval, c_isGrid, c_isKind, c_isSort, c_isPlain, r_isGrid, r_isKind, r_isSort, r_isPlain, r_in, dnP, Bool.false_eq_true, if_false, if_true]
  · obtain ⟨k1, a1, r1, hb⟩ := laysBy_A r' hr hl
    have KK := it_inv (f := fX13_orderDeed_b64 (some 289) (nI r) (nI (A.2.2.1 r).2.1)) (Q := fun _ k => RS q0 [] k (setR A r T) ∧ ByIs k (A.2.2.1 r)) (fun j s k => s = nI j ∧ RS q0 [] k (setR A r (rkR (A.2.2.1 r) P0 j)) ∧ ByIs k (A.2.2.1 r)) (A.2.2.1 r).2.1 1000 0 (by omega) (by omega) ?_ ?_ (nI 0) k1 ⟨rfl, ?_, hb⟩
    · obtain ⟨_, k2, b1, r2, hb2⟩ := KK
      rw [nI_0] at b1
      have key := dnIt_run (f := fX13_orderDeed_b151 (some 289) (nI r) (nI (A.2.2.1 r).2.1)) (q := aI F (A.2.2.1 r).2.1) (hq := k2) (A.2.2.1 r).2.1 1000 (fun i => ((aI F i, nI i), k2)) (by omega) (fun i hi => by
        have hc : ¬ (nI (A.2.2.1 r).2.1 ≤ nI i) := fun hc => by have := (nI_leI (a := (A.2.2.1 r).2.1) (b := i) (by omega) (by omega)).mp hc; omega
        obtain ⟨-, x2, x3⟩ := hb2 i (by omega)
        have nm := num_A r2 hr hl (show i < 12 by omega)
        have re := rea_A r2 hr hl (show i < 12 by omega)
        rw [setR_at] at nm re
        have eT : (T.2.2 i).1 = (A.2.2.1 r).1 := (okT.2.2 i (by omega)).2.2.1 hk8
        have el := lkC_pl eT (srt i (by omega)) (okT.2.2 i (by omega)).2.2.2 (hrw.2.2 i (by omega)).2.2.2
        show _ = some (Sum.inl (aI F i + dnZ (!lkC (T.2.2 i) ((A.2.2.1 r).2.2 i)), nI (i + 1)), k2)
        rw [el]
        simp only [fX13_orderDeed_b151, fX13_orderDeed_j213, fX13_orderDeed_j208, dnB_eval, hc, if_false, g_289_10 r2.1, g_289_11 r2.1, g_289_16 r2.1, g_289_17 r2.1, at_r, nm, re, a_300 r2.1, a_301 r2.1, dnIn_nI (show i < 12 by omega) (by decide), nI_clamp (show i < 2 ^ 31 by omega), if_true, x2, x3, lg_cmp_eq, dnP, nI_1]
        by_cases y1 : (T.2.2 i).2.1 = ((A.2.2.1 r).2.2 i).2.1
        · rw [if_neg (not_not_intro y1), decide_eq_true y1, Bool.true_and]
          simp only [dnB_eval, g_289_11 r2.1, g_289_17 r2.1, re, a_301 r2.1, dnIn_nI (show i < 12 by omega) (by decide), nI_clamp (show i < 2 ^ 31 by omega), if_true, x3]
          unfold dEq
          by_cases y2 : Op.cmpValue (FP.dcmp (T.2.2 i).2.2 ((A.2.2.1 r).2.2 i).2.2) .l = 0
          · rw [if_pos y2, decide_eq_true y2]
            rfl
          · rw [if_neg y2, decide_eq_false y2]
            rfl
        · rw [if_pos y1, decide_eq_false y1, Bool.false_and]
          rfl) (by simp only [fX13_orderDeed_b151, Int32.le_refl, if_true, dnP])
      have key : dnIt 1000 (fX13_orderDeed_b151 (some 289) (nI r) (nI (A.2.2.1 r).2.1)) (0, 0) k2 = some (aI F (A.2.2.1 r).2.1, k2) := key
      refine ⟨k2, _, ?_, r2⟩
      simp only [fX13_orderDeed, hg, v_289 r'.1, (l2 q0 _ k r').1, (l2 q0 _ k r').2, g_289_6 r'.1, kind_A r' hr hl, hp, a1, g_289_7 r1.1, len_A r1 hr hl, b1, key, dnB_eval, c_isGrid, c_isKind, c_isSort, c_isPlain, r_isGrid, r_isKind, r_isSort, r_isPlain, r_in, dnP, Bool.false_eq_true, if_false, if_true]
    · rintro j s k hj ⟨rfl, rk, hk⟩
      left
      have hc : ¬ (nI (A.2.2.1 r).2.1 ≤ nI j) := fun hc => by have := (nI_leI (a := (A.2.2.1 r).2.1) (b := j) (by omega) (by omega)).mp hc; omega
      obtain ⟨t, ht, et⟩ := S0.2.1 j hj
      have hrk := S0.2.2.1 t ht
      rw [et] at hrk
      have key := dnIt_run (f := fX13_orderDeed_b77 (some 289) (nI r) (nI (A.2.2.1 r).2.1) (nI j)) (q := aI (bef (fun j => kz ((A.2.2.1 r).2.2 j)) j) (A.2.2.1 r).2.1) (hq := k) (A.2.2.1 r).2.1 1000 (fun i => ((aI (bef (fun j => kz ((A.2.2.1 r).2.2 j)) j) i, nI i), k)) (by omega) (fun i hi => by
        have hc : ¬ (nI (A.2.2.1 r).2.1 ≤ nI i) := fun hc => by have := (nI_leI (a := (A.2.2.1 r).2.1) (b := i) (by omega) (by omega)).mp hc; omega
        have w1 := isBehind_A rk hk (show j < 12 by omega) (show i < 12 by omega) (srt j (by omega)) (srt i (by omega)) (hrw.2.2 j (by omega)).2.2.2 (hrw.2.2 i (by omega)).2.2.2
        have w2 := isBehind_A rk hk (show i < 12 by omega) (show j < 12 by omega) (srt i (by omega)) (srt j (by omega)) (hrw.2.2 i (by omega)).2.2.2 (hrw.2.2 j (by omega)).2.2.2
        have eb : bef (fun j => kz ((A.2.2.1 r).2.2 j)) j i = decide (kz ((A.2.2.1 r).2.2 i) < kz ((A.2.2.1 r).2.2 j) ∨ (kz ((A.2.2.1 r).2.2 i) = kz ((A.2.2.1 r).2.2 j) ∧ i < j)) := rfl
        show _ = some (Sum.inl (aI (bef (fun j => kz ((A.2.2.1 r).2.2 j)) j) i + dnZ (bef (fun j => kz ((A.2.2.1 r).2.2 j)) j i), nI (i + 1)), k)
        simp only [fX13_orderDeed_b77, fX13_orderDeed_j115, fX13_orderDeed_j119, fX13_orderDeed_j120, dnB_eval, hc, if_false, v_289 rk.1, w1, w2, dnP, nI_1, nI_leI (show j < 2 ^ 31 by omega) (show i < 2 ^ 31 by omega), decide_eq_true_eq]
        by_cases y1 : kz ((A.2.2.1 r).2.2 i) < kz ((A.2.2.1 r).2.2 j)
        · rw [if_pos y1, eb, decide_eq_true (by omega)]
          rfl
        · rw [if_neg y1]
          simp only [dnB_eval, v_289 rk.1, w2, decide_eq_true_eq]
          by_cases y2 : kz ((A.2.2.1 r).2.2 j) < kz ((A.2.2.1 r).2.2 i)
          · rw [if_pos y2, eb, decide_eq_false (by omega)]
            rfl
          · rw [if_neg y2]
            by_cases y3 : j ≤ i
            · rw [if_pos y3, eb, decide_eq_false (by omega)]
              rfl
            · rw [if_neg y3, eb, decide_eq_true (by omega)]
              rfl) (by simp only [fX13_orderDeed_b77, Int32.le_refl, if_true, dnP])
      have key : dnIt 1000 (fX13_orderDeed_b77 (some 289) (nI r) (nI (A.2.2.1 r).2.1) (nI j)) (0, 0) k = some (aI (bef (fun j => kz ((A.2.2.1 r).2.2 j)) j) (A.2.2.1 r).2.1, k) := key
      rw [aI_nI, hrk] at key
      obtain ⟨k2, b1, r2, hk2⟩ := fromBy_A (i := t) (k := j) rk hk (by omega) hr hl (by omega)
      rw [setR_at, setR_setR] at r2
      have er : setC (rkR (A.2.2.1 r) P0 j) t ((A.2.2.1 r).2.2 j) = rkR (A.2.2.1 r) P0 (j + 1) := rw_ext rfl rfl (fun u => by
        show (if u = t then _ else if u < _ ∧ P0 u < j then _ else _) = if u < _ ∧ P0 u < j + 1 then _ else _
        by_cases q : u = t
        · rw [if_pos q, if_pos ⟨by omega, by rw [q, et]; omega⟩, q, et]
        · rw [if_neg q]
          by_cases q2 : u < (A.2.2.1 r).2.1 ∧ P0 u < j + 1
          · have : P0 u ≠ j := fun e => by
              have z := S0.2.2.1 u q2.1
              rw [e, hrk] at z
              omega
            rw [if_pos q2, if_pos ⟨q2.1, by omega⟩]
          · rw [if_neg q2, if_neg (fun hc => q2 ⟨hc.1, by omega⟩)])
      rw [er] at r2
      refine ⟨nI (j + 1), k2, ?_, rfl, r2, hk2⟩
      simp only [fX13_orderDeed_b64, dnB_eval, hc, if_false, key, v_289 rk.1, b1, dnP, nI_1]
    · rintro s k ⟨rfl, rk, hk⟩
      have : rkR (A.2.2.1 r) P0 (A.2.2.1 r).2.1 = T := rw_ext rfl rfl (fun u => by
        show (if u < _ ∧ P0 u < _ then _ else _) = if u < _ then _ else _
        by_cases q : u < (A.2.2.1 r).2.1
        · rw [if_pos ⟨q, S0.1 u q⟩, if_pos q]
        · rw [if_neg (fun hc => q hc.1), if_neg q])
      rw [this] at rk
      exact ⟨(), k, by simp only [fX13_orderDeed_b64, Int32.le_refl, if_true, dnP], rk, hk⟩
    · have : rkR (A.2.2.1 r) P0 0 = A.2.2.1 r := rw_ext rfl rfl (fun u => if_neg (fun hc => Nat.not_lt_zero _ hc.2))
      rw [this, setR_self]
      exact r1

theorem call_order {B : Nat} (hB : 16 ≤ B) (g p : Int32) : Call B B (fX12_order (some 0) g p) (fX13_order (some 289) g p) :=
  callA (Nat.le_refl _) (fun h v h1 s1 s2 e => by simp only [fX12_order, dnB_eval, g_0_4 s1, v_259 s1, e, v_0 s2, tally_c s2, dnP]) (fun h v h1 s1 s2 e => by simp only [fX13_order, dnB_eval, v_289 s1, e, v_289 s2, said_r s2, dnP]) (step_order hB g p)
