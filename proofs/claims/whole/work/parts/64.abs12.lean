/-! ABS 12: cells copied; cut, cast -/
def fillR (R : Rw) (a n : Nat) (f : Nat → Cel) : Rw := (R.1, R.2.1, fun j => if a ≤ j ∧ j < a + n then f (j - a) else R.2.2 j)
theorem fillR_0 {R : Rw} {a : Nat} {f : Nat → Cel} : fillR R a 0 f = R := by
  unfold fillR
  have : (fun j => if a ≤ j ∧ j < a + 0 then f (j - a) else R.2.2 j) = R.2.2 := by
    funext j
    rw [if_neg (by omega)]
  rw [this]
theorem fillR_s {R : Rw} {a n : Nat} {f : Nat → Cel} : fillR R a (n + 1) f = setC (fillR R a n f) (a + n) (f n) := by
  unfold fillR setC
  have : (fun j => if a ≤ j ∧ j < a + (n + 1) then f (j - a) else R.2.2 j) = (fun j => if j = a + n then f n else if a ≤ j ∧ j < a + n then f (j - a) else R.2.2 j) := by
    funext j
    by_cases q : j = a + n
    · subst q
      rw [if_pos (by omega), if_pos rfl, show a + n - a = n by omega]
    · rw [if_neg q]
      by_cases q2 : a ≤ j ∧ j < a + n
      · rw [if_pos q2, if_pos (by omega)]
      · rw [if_neg q2, if_neg (by omega)]
  rw [this]
theorem rwOk_fill {B : Nat} {R : Rw} {a n : Nat} {f : Nat → Cel} (h : rwOk B R) (hf : ∀ k, k < n → celOk B R.1 (f k)) : rwOk B (fillR R a n f) := ⟨h.1, h.2.1, fun j hj => by
  show celOk B R.1 (if a ≤ j ∧ j < a + n then f (j - a) else R.2.2 j)
  split
  · exact hf _ (by omega)
  · exact h.2.2 j hj⟩
theorem setR_setR {A : Ab} {x : Nat} {R R2 : Rw} : setR (setR A x R) x R2 = setR A x R2 := by
  unfold setR
  have : (fun m => if m = x then R2 else (if m = x then R else A.2.2.1 m)) = (fun m => if m = x then R2 else A.2.2.1 m) := by
    funext m
    split <;> rfl
  dsimp only
  rw [this]
theorem setR_at {A : Ab} {x : Nat} {R : Rw} : (setR A x R).2.2.1 x = R := if_pos rfl
theorem setR_ne {A : Ab} {x m : Nat} {R : Rw} (h : m ≠ x) : (setR A x R).2.2.1 m = A.2.2.1 m := if_neg h
theorem append_H {B : Nat} {h : dnH} {t b a i n : Nat} {R Q : Rw} (ht : RowAt h t) (hb : RowAt h b) (hR : RwH h t R) (hQ : RwH h b Q) (hne : b + 4 ≤ t ∨ t + 4 ≤ b) (w : rwOk B R) (han : a + n ≤ 12) (hin : i + n ≤ 12) (hq : ∀ k, k < n → (Q.2.2 (i + k)).1 < 12 ∧ tk R.1 (Q.2.2 (i + k)).1 = true ∧ valOk B (Q.2.2 (i + k)).1 (Q.2.2 (i + k)).2.1 (Q.2.2 (i + k)).2.2) :
    ∃ h2, fX6_append (some t) (nI a) (some b) (nI i) (nI n) h = some ((), h2) ∧ EqR t h h2 ∧ RwH h2 t (fillR R a n (fun k => cvt R.1 (Q.2.2 (i + k)))) := by
  have KK := it_inv (f := fX6_append_b3 (some t) (nI a) (some b) (nI i) (nI n)) (Q := fun _ k => EqR t h k ∧ RwH k t (fillR R a n (fun k => cvt R.1 (Q.2.2 (i + k))))) (fun j s k => s = nI j ∧ EqR t h k ∧ RwH k t (fillR R a j (fun k => cvt R.1 (Q.2.2 (i + k))))) n 1000 0 (by omega) (by omega) ?_ ?_ (nI 0) h ⟨rfl, EqR.rf, by rw [fillR_0]; exact hR⟩
  · obtain ⟨_, h2, e, f1, f2⟩ := KK
    rw [nI_0] at e
    exact ⟨h2, by simp only [fX6_append, dnB_eval, e, dnP], f1, f2⟩
  · rintro j s k hj ⟨rfl, k1, k2⟩
    left
    have hc : ¬ (nI n ≤ nI j) := fun hc => by have := (nI_leI (a := n) (b := j) (by omega) (by omega)).mp hc; omega
    obtain ⟨q1, q2, q3⟩ := hq j hj
    have tk' := k1.1.rowAt ht
    have bk' := k1.1.rowAt hb
    have ok : celOk B R.1 ((fillR R a j (fun k => cvt R.1 (Q.2.2 (i + k)))).2.2 (a + j)) := by
      show celOk B R.1 (if a ≤ a + j ∧ a + j < a + j then _ else R.2.2 (a + j))
      rw [if_neg (by omega)]
      exact w.2.2 _ (by omega)
    obtain ⟨h2, b1, b2, b3⟩ := accept_A (B := B) (i := a + j) (j := i + j) tk' bk' k2 (k1.row (by omega) hQ) (by omega) (by omega) w.1 ok q1 q3 (fun e => by omega)
    refine ⟨nI (j + 1), h2, ?_, rfl, k1.tr b2, ?_⟩
    · simp only [fX6_append_b3, hc, if_false, dnB_eval, nI_add, rv tk', b1, dnP, nI_1]
    · have b3 : RwH h2 t (if tk R.1 (Q.2.2 (i + j)).1 = true then setC (fillR R a j (fun k => cvt R.1 (Q.2.2 (i + k)))) (a + j) (cvt R.1 (Q.2.2 (i + j))) else _) := b3
      rw [if_pos q2] at b3
      rw [fillR_s]
      exact b3
  · rintro s k ⟨rfl, k1, k2⟩
    exact ⟨(), k, by simp only [fX6_append_b3, Int32.le_refl, if_true, dnP], k1, k2⟩
theorem copies_F {B : Nat} {h0 h : dnH} {X : List Nat} {A : Ab} {x r i a k : Nat} {R : Rw} {f : Nat → Cel} (c : RS h0 X h (setR A x (fillR R a k f))) (hx : x < 31) (hlx : live X A x) (hr : r < 31) (hlr : live X A r) (hne : r ≠ x) (hi : i < 12) (hj : a + k < 12) (hkd : R.1 < 12) (w : celOk B (A.2.2.1 r).1 ((A.2.2.1 r).2.2 i)) (ht : tk R.1 ((A.2.2.1 r).2.2 i).1 = true) (hf : f k = cvt R.1 ((A.2.2.1 r).2.2 i)) :
    ∃ h2, fX13_copies (some 289) (nI r) (nI i) (nI x) (nI (a + k)) h = some ((), h2) ∧ RS h0 X h2 (setR A x (fillR R a (k + 1) f)) := by
  have e1 : (setR A x (fillR R a k f)).2.2.1 r = A.2.2.1 r := setR_ne hne
  have e2 : (setR A x (fillR R a k f)).2.2.1 x = fillR R a k f := setR_at
  obtain ⟨h2, b1, b2⟩ := copies_A (B := B) (i := i) (j := a + k) c hr hlr hi hx hlx hj (by rw [e2]; exact hkd) (by rw [e1]; exact w)
  rw [e1, e2] at b2
  have b2 : RS h0 X h2 (if tk R.1 ((A.2.2.1 r).2.2 i).1 = true then setR (setR A x (fillR R a k f)) x (setC (fillR R a k f) (a + k) (cvt R.1 ((A.2.2.1 r).2.2 i))) else setR A x (fillR R a k f)) := b2
  rw [if_pos ht, setR_setR, ← hf, ← fillR_s] at b2
  exact ⟨h2, b1, b2⟩
theorem wf_new {B : Nat} {A : Ab} {x G q m : Nat} {R : Rw} (w : Wf B [] A) (hx : x < 31) (hR : rwOk B R) (hG : G < 4) (hm : m ≤ 6) (hq : q < m) (e1 : A.1 G = nI m) : Wf B [] (setH (setR A x R) (6 * G + q) (nI x)) := by
  have w1 : Wf B [x] (setR A x R) := w.setR consY hR
  refine (w1.setH hG hm hq e1 (.inr (.inr (.inr ⟨x, hx, rfl⟩))) (fun n hn e => ?_)).sub subN
  rw [← (nI_eq (by omega) (by omega)).mp e]
  exact .inl (List.mem_singleton.mpr rfl)
theorem CS.unset {h0 h : dnH} {S : Nat → Int32} {X : List Nat} {A : Ab} {x : Nat} {R : Rw} (c : CS h0 S X h (setR A x R)) (hx : ¬ live [] A x) : CS h0 S [] h A := by
  obtain ⟨c1, c2, c3, c4, c5, c6⟩ := c
  refine ⟨c1, c2, c3, c4, ⟨c5.1, c5.2.1, fun n hn hl => ?_⟩, c6⟩
  have hne : n ≠ x := fun e => hx (e ▸ hl)
  have := c5.2.2 n hn (live_mono (by intro _ hm; cases hm) hl)
  rw [setR_ne hne] at this
  exact this
theorem sub_of {a b : Nat} {i : Int32} (ha : a ≤ 72) (hb : b ≤ 72) (h : inB i 0 (nI a - nI b) = true) : ∃ I, i = nI I ∧ I + b ≤ a := by
  obtain ⟨h1, h2⟩ := of_decide_eq_true h
  have e : (nI a - nI b).toInt = (a : Int) - b := by
    rw [Int32.toInt_sub, nI_toInt (by omega), nI_toInt (by omega)]
    exact Int.bmod_eq_of_le (by omega) (by omega)
  have h1 := Int32.le_iff_toInt_le.mp h1
  have h2 := Int32.le_iff_toInt_le.mp h2
  rw [e] at h2
  have h0 : (0 : Int32).toInt = 0 := rfl
  refine ⟨i.toInt.toNat, Int32.toInt_inj.mp ?_, by omega⟩
  rw [nI_toInt (by omega)]
  omega
theorem step_cut {B : Nat} (hB : 16 ≤ B) (g p i n q : Int32) : Step B B (fX6_cutOut (some 259) g p i n q) (fX13_cutDeed (some 289) g p i n q) := by
  intro A w
  cases hg : inB g 0 3
  · exact step_ro (-1) w (fun h0 h c => by simp only [fX6_cutOut, hg, dnB_eval, c_isGrid, c_isKind, c_isSort, c_isPlain, r_isGrid, r_isKind, r_isSort, r_isPlain, r_in, dnP, Bool.false_eq_true, if_false, if_true]) (fun q0 q r => by simp only [fX13_cutDeed, hg, dnB_eval, c_isGrid, c_isKind, c_isSort, c_isPlain, r_isGrid, r_isKind, r_isSort, r_isPlain, r_in, dnP, Bool.false_eq_true, if_false, if_true])
  cases hk : inB n 0 12
  · have h1 : ¬ (0 ≤ n ∧ n ≤ 12) := of_decide_eq_false hk
    refine step_ro (-1) w (fun h0 h c => ?_) (fun q0 q r => by simp only [fX13_cutDeed, hg, hk, dnB_eval, c_isGrid, c_isKind, c_isSort, c_isPlain, r_isGrid, r_isKind, r_isSort, r_isPlain, r_in, dnP, Bool.false_eq_true, if_false, if_true])
    by_cases c0 : n < 0
    · simp only [fX6_cutOut, hg, c0, dnB_eval, c_isGrid, c_isKind, c_isSort, c_isPlain, r_isGrid, r_isKind, r_isSort, r_isPlain, r_in, dnP, Bool.false_eq_true, if_false, if_true]
    · have c2 : ¬ n ≤ 12 := fun hc => h1 ⟨Int32.not_lt.mp c0, hc⟩
      simp only [fX6_cutOut, hg, c0, c2, dnB_eval, c_isGrid, c_isKind, c_isSort, c_isPlain, r_isGrid, r_isKind, r_isSort, r_isPlain, r_in, dnP, Bool.false_eq_true, if_false, if_true]
  obtain ⟨n, hn, rfl⟩ := inB_of (n := 12) (by decide) hk
  have x0 : ¬ nI n < 0 := nI_pos (by omega)
  have x12 : nI n ≤ 12 := (of_decide_eq_true hk).2
  rcases lookR w g p with ⟨f, f0, -, f2, f3⟩ | ⟨G, P, m, r, hG, hP, hm, hr, rfl, rfl, e1, e2, -, hl, -, hrw, l1, l2⟩
  · obtain ⟨n1, n2⟩ := neg_fault f0
    exact step_ro f w (fun h0 h c => by simp only [fX6_cutOut, hg, x0, x12, g_259_0 c.1, sv (st1 c.1), (f2 h0 _ _ h c).1, (f2 h0 _ _ h c).2, Option.elim, dnB_eval, c_isGrid, c_isKind, c_isSort, c_isPlain, r_isGrid, r_isKind, r_isSort, r_isPlain, r_in, dnP, Bool.false_eq_true, if_false, if_true]) (fun q0 q r => by simp only [fX13_cutDeed, hg, hk, v_289 r.1, f3 hg q0 _ q r, n1, dnB_eval, c_isGrid, c_isKind, c_isSort, c_isPlain, r_isGrid, r_isKind, r_isSort, r_isPlain, r_in, dnP, Bool.false_eq_true, if_false, if_true])
  have N1 := hrw.2.1
  cases hi : inB i 0 (nI (A.2.2.1 r).2.1 - nI n)
  · have h1 : ¬ (0 ≤ i ∧ i ≤ nI (A.2.2.1 r).2.1 - nI n) := of_decide_eq_false hi
    refine step_ro (-6) w (fun h0 h c => ?_) (fun q0 k r' => by simp only [fX13_cutDeed, hg, hk, v_289 r'.1, (l2 q0 _ k r').1, (l2 q0 _ k r').2, g_289_7 r'.1, len_A r' hr hl, hi, dnB_eval, c_isGrid, c_isKind, c_isSort, c_isPlain, r_isGrid, r_isKind, r_isSort, r_isPlain, r_in, dnP, Bool.false_eq_true, if_false, if_true])
    by_cases c0 : i < 0
    · simp only [fX6_cutOut, hg, x0, x12, g_259_0 c.1, sv (st1 c.1), l1 h0 _ _ h c, Option.elim, c0, dnB_eval, c_isGrid, c_isKind, c_isSort, c_isPlain, r_isGrid, r_isKind, r_isSort, r_isPlain, r_in, dnP, Bool.false_eq_true, if_false, if_true]
    · have c2 : ¬ i ≤ nI (A.2.2.1 r).2.1 - nI n := fun hc => h1 ⟨Int32.not_lt.mp c0, hc⟩
      simp only [fX6_cutOut, hg, x0, x12, g_259_0 c.1, sv (st1 c.1), l1 h0 _ _ h c, Option.elim, c0, rg_i (row1 c.1 hr), (c.row hr hl).2.1, c2, dnB_eval, c_isGrid, c_isKind, c_isSort, c_isPlain, r_isGrid, r_isKind, r_isSort, r_isPlain, r_in, dnP, Bool.false_eq_true, if_false, if_true]
  have i0 : ¬ i < 0 := Int32.not_lt.mpr (of_decide_eq_true hi).1
  have i1 : i ≤ nI (A.2.2.1 r).2.1 - nI n := (of_decide_eq_true hi).2
  obtain ⟨I, rfl, hI⟩ := sub_of (by omega) (by omega) hi
  rcases lookP w (nI G) q with ⟨f, f0, -, f2, f3⟩ | ⟨G', q', m', hG', hq', hm', eg, rfl, e1', -, ho, k1, k2⟩
  · obtain ⟨n1, n2⟩ := neg_fault f0
    exact step_ro (-3) w (fun h0 h c => by simp only [fX6_cutOut, hg, x0, x12, g_259_0 c.1, sv (st1 c.1), l1 h0 _ _ h c, Option.elim, i0, rg_i (row1 c.1 hr), (c.row hr hl).2.1, i1, (f2 h0 _ _ h c).2.1, dnB_eval, c_isGrid, c_isKind, c_isSort, c_isPlain, r_isGrid, r_isKind, r_isSort, r_isPlain, r_in, dnP, Bool.false_eq_true, if_false, if_true]) (fun q0 k r' => by simp only [fX13_cutDeed, hg, hk, v_289 r'.1, (l2 q0 _ k r').1, (l2 q0 _ k r').2, g_289_7 r'.1, len_A r' hr hl, hi, (f3 hg q0 _ k r').1, n1, dnB_eval, c_isGrid, c_isKind, c_isSort, c_isPlain, r_isGrid, r_isKind, r_isSort, r_isPlain, r_in, dnP, Bool.false_eq_true, if_false, if_true])
  have eG : G' = G := ((nI_eq (by omega) (by omega)).mp eg).symm
  subst eG
  obtain ⟨x, hx⟩ := exFr (X := []) A (by decide)
  have hrx : r ≠ x := fun e => hx.2.1 (e ▸ hl)
  have hlx : live [x] A x := .inl (List.mem_singleton.mpr rfl)
  have hlr : live [x] A r := live_mono subN hl
  have hcel : ∀ k, k < n → ((A.2.2.1 r).2.2 (I + k)).1 < 12 ∧ tk (A.2.2.1 r).1 ((A.2.2.1 r).2.2 (I + k)).1 = true ∧ valOk B ((A.2.2.1 r).2.2 (I + k)).1 ((A.2.2.1 r).2.2 (I + k)).2.1 ((A.2.2.1 r).2.2 (I + k)).2.2 := fun k hk => by
    obtain ⟨a1, a2, a3, a4⟩ := hrw.2.2 (I + k) (by omega)
    exact ⟨a1, a2, a4⟩
  have hnew := rwOk_new (B := B) (kd := (A.2.2.1 r).1) (n := n) hB hrw.1 hn
  refine ⟨nI n, setH (setR A x (fillR (newR (A.2.2.1 r).1 n) 0 n (fun k => cvt (A.2.2.1 r).1 ((A.2.2.1 r).2.2 (I + k))))) (6 * G' + q') (nI x), wf_new w hx.1 (rwOk_fill hnew (fun k hk => celOk_cvt hB hrw.1 (hcel k hk).1 (hcel k hk).2.1 (hcel k hk).2.2)) hG hm' hq' e1', fun h0 h c => ?_, fun q0 k r' => ?_⟩
  · obtain ⟨h1, a1, c1⟩ := freshRow_A (kd := (A.2.2.1 r).1) (ln := n) c spX_0 hx hrw.1
    have rr := c1.row hr hlr
    rw [setR_ne hrx] at rr
    have rx := c1.row hx.1 hlx
    rw [setR_at] at rx
    obtain ⟨h2, b1, b2, b3⟩ := append_H (B := B) (a := 0) (i := I) (n := n) (row1 c1.1 hx.1) (row1 c1.1 hr) rx rr (by omega) hnew (by omega) (by omega) hcel
    rw [nI_0] at b1
    have c2 := c1.setRow (Y := [x]) hx.1 (fun m hm => .inr hm) b2 b3
    rw [setR_setR] at c2
    obtain ⟨d1, c3⟩ := place_A (q := q') c2 hG (by omega) hx.1 hlx
    refine ⟨_, ?_, c3.sub subN⟩
    simp only [fX6_cutOut, hg, x0, x12, g_259_0 c.1, sv (st1 c.1), l1 h0 _ _ h c, Option.elim, i0, rg_i (row1 c.1 hr), (c.row hr hl).2.1, (c.row hr hl).1, i1, (k1 h0 _ _ h c).2, a1, b1, g_259_0 c2.1, sv (st1 c2.1), d1, dnB_eval, c_isGrid, c_isKind, c_isSort, c_isPlain, r_isGrid, r_isKind, r_isSort, r_isPlain, r_in, dnP, Bool.false_eq_true, if_false, if_true]
  · obtain ⟨k3, a1, r1⟩ := newRow_A (kd := (A.2.2.1 r).1) (ln := n) r' w.2.1 hx hrw.1
    have KK := it_inv (f := fX13_cutDeed_b96 (some 289) (nI G') (nI I) (nI n) (nI q') (nI r) (nI x)) (Q := fun _ k => RS q0 [x] k (setR A x (fillR (newR (A.2.2.1 r).1 n) 0 n (fun k => cvt (A.2.2.1 r).1 ((A.2.2.1 r).2.2 (I + k)))))) (fun j s k => s = nI j ∧ RS q0 [x] k (setR A x (fillR (newR (A.2.2.1 r).1 n) 0 j (fun k => cvt (A.2.2.1 r).1 ((A.2.2.1 r).2.2 (I + k)))))) n 1000 0 (by omega) (by omega) ?_ ?_ (nI 0) k3 ⟨rfl, by rw [fillR_0]; exact r1⟩
    · obtain ⟨_, k4, b1, r2⟩ := KK
      rw [nI_0] at b1
      obtain ⟨d1, r3⟩ := holdsNow_A (v := nI x) (p := q') r2 hG (by omega) (fun n hn e => by
        rw [← (nI_eq (by have := hx.1; omega) (by omega)).mp e]
        exact hlx)
      rw [rc_nI hx.1] at d1 r3
      refine ⟨_, _, ?_, r3⟩
      simp only [fX13_cutDeed, hg, hk, v_289 r'.1, (l2 q0 _ k r').1, (l2 q0 _ k r').2, g_289_7 r'.1, len_A r' hr hl, hi, (k2 q0 _ k r').1, g_289_6 r'.1, kind_A r' hr hl, a1, b1, v_289 r2.1, d1, dnB_eval, c_isGrid, c_isKind, c_isSort, c_isPlain, r_isGrid, r_isKind, r_isSort, r_isPlain, r_in, dnP, Bool.false_eq_true, if_false, if_true]
    · rintro j s k hj ⟨rfl, rk⟩
      left
      have hc : ¬ (nI n ≤ nI j) := fun hc => by have := (nI_leI (a := n) (b := j) (by omega) (by omega)).mp hc; omega
      obtain ⟨h2, b1, b2⟩ := copies_F (B := B) (i := I + j) rk hx.1 hlx hr hlr hrx (by omega) (by omega) hrw.1 (hrw.2.2 _ (by omega)) (hcel j hj).2.1 rfl
      rw [Nat.zero_add] at b1
      exact ⟨nI (j + 1), h2, by simp only [fX13_cutDeed_b96, hc, if_false, dnB_eval, v_289 rk.1, nI_add, b1, dnP, nI_1], rfl, b2⟩
    · rintro s k ⟨rfl, rk⟩
      exact ⟨(), k, by simp only [fX13_cutDeed_b96, Int32.le_refl, if_true, dnP], rk⟩

theorem call_cut {B : Nat} (hB : 16 ≤ B) (g p i n q : Int32) : Call B B (fX12_cut (some 0) g p i n q) (fX13_cut (some 289) g p i n q) :=
  callA (Nat.le_refl _) (fun h v h1 s1 s2 e => by simp only [fX12_cut, dnB_eval, g_0_4 s1, v_259 s1, e, v_0 s2, tally_c s2, dnP]) (fun h v h1 s1 s2 e => by simp only [fX13_cut, dnB_eval, v_289 s1, e, v_289 s2, said_r s2, dnP]) (step_cut hB g p i n q)
