/-! ABS 28: deal -/
theorem div_I {a b : Nat} (ha : a < 2 ^ 31) (hb : b < 2 ^ 31) : nI a / nI b = nI (a / b) := by
  refine Int32.toInt_inj.mp ?_
  have h1 : a / b ≤ a := Nat.div_le_self a b
  rw [Int32.toInt_div, nI_toInt ha, nI_toInt hb, nI_toInt (by omega), ← Int.ofNat_tdiv]
  generalize a / b = d at h1
  exact Int.bmod_eq_of_le (by omega) (by omega)
def gT (A : Ab) (g : Nat → Rw) : Nat → Ts
  | 0 => (A, [], sp0)
  | j + 1 => nxS (gT A g j) j (g j)
def xl (A : Ab) : Nat → List Nat
  | 0 => []
  | k + 1 => frN (xl A k) A :: xl A k
def xs (A : Ab) (k : Nat) : Nat := frN (xl A k) A
def sS (A : Ab) : Nat → (Nat → Int32)
  | 0 => sp0
  | k + 1 => upS (sS A k) k (nI (xs A k))
def stR (A : Ab) (g : Nat → Rw) : Nat → Ab
  | 0 => A
  | k + 1 => setR (stR A g k) (xs A k) (g k)
theorem frN_eq {X : List Nat} {A A2 : Ab} (h : A2.2.1 = A.2.1) : frN X A2 = frN X A := by
  unfold frN liveB
  rw [h]
theorem stR_h {A : Ab} {g : Nat → Rw} : ∀ j, (stR A g j).2.1 = A.2.1 := by
  intro j
  induction j with
  | zero => rfl
  | succ j ih => exact ih
theorem gT_eq {A : Ab} {g : Nat → Rw} : ∀ j, gT A g j = (stR A g j, xl A j, sS A j) := by
  intro j
  induction j with
  | zero => rfl
  | succ j ih =>
    show nxS (gT A g j) j (g j) = _
    rw [ih]
    unfold nxS
    dsimp only
    rw [frN_eq (stR_h j)]
    rfl
theorem xl_len {A : Ab} : ∀ j, (xl A j).length = j := by
  intro j
  induction j with
  | zero => rfl
  | succ j ih =>
    show (xl A j).length + 1 = _
    omega
theorem xs_mem {A : Ab} {k : Nat} : ∀ d, xs A k ∈ xl A (k + 1 + d) := by
  intro d
  induction d with
  | zero => exact List.mem_cons.mpr (.inl rfl)
  | succ d ih => exact List.mem_cons.mpr (.inr ih)
theorem xs_ne {A : Ab} {k n : Nat} (h : k < n) (hn : n ≤ 6) : xs A k ≠ xs A n := fun e => by
  have f := frN_is (X := xl A n) (A := A) (by rw [xl_len]; exact hn)
  have m := xs_mem (A := A) (k := k) (n - (k + 1))
  rw [show k + 1 + (n - (k + 1)) = n by omega, e] at m
  exact f.2.1 (.inl m)
theorem setR_comm {A : Ab} {a b : Nat} {P R : Rw} (h : a ≠ b) : setR (setR A a P) b R = setR (setR A b R) a P := by
  unfold setR
  have : (fun m => if m = b then R else (if m = a then P else A.2.2.1 m)) = (fun m => if m = a then P else (if m = b then R else A.2.2.1 m)) := by
    funext m
    by_cases q : m = b
    · rw [if_pos q, if_neg (fun e => h (e.symm.trans q)), if_pos q]
    · rw [if_neg q]
      by_cases q2 : m = a
      · rw [if_pos q2, if_pos q2]
      · rw [if_neg q2, if_neg q2, if_neg q]
  dsimp only
  rw [this]
theorem stR_congr {A : Ab} {g g2 : Nat → Rw} : ∀ n, (∀ k, k < n → g k = g2 k) → stR A g n = stR A g2 n := by
  intro n
  induction n with
  | zero => exact fun _ => rfl
  | succ n ih =>
    intro h
    show setR (stR A g n) (xs A n) (g n) = setR (stR A g2 n) (xs A n) (g2 n)
    rw [ih (fun k hk => h k (by omega)), h n (by omega)]
theorem stR_upd {A : Ab} {g : Nat → Rw} {R : Rw} {k : Nat} : ∀ n, k < n → n ≤ 6 → setR (stR A g n) (xs A k) R = stR A (fun j => if j = k then R else g j) n := by
  intro n
  induction n with
  | zero => intro h; omega
  | succ n ih =>
    intro hk hn
    show setR (setR (stR A g n) (xs A n) (g n)) (xs A k) R = setR (stR A (fun j => if j = k then R else g j) n) (xs A n) (if n = k then R else g n)
    by_cases q : k = n
    · subst q
      rw [setR_setR, if_pos rfl, stR_congr k (g := g) (g2 := fun j => if j = k then R else g j) (fun j hj => (if_neg (show ¬ j = k by omega)).symm)]
    · rw [if_neg (fun e => q e.symm), ← ih (by omega) (by omega), setR_comm (xs_ne (show k < n by omega) (by omega)).symm]
theorem stR_at {A : Ab} {g : Nat → Rw} {k : Nat} : ∀ n, k < n → n ≤ 6 → (stR A g n).2.2.1 (xs A k) = g k := by
  intro n
  induction n with
  | zero => intro h; omega
  | succ n ih =>
    intro hk hn
    show (setR (stR A g n) (xs A n) (g n)).2.2.1 (xs A k) = g k
    by_cases q : k = n
    · subst q
      exact setR_at
    · rw [setR_ne (xs_ne (show k < n by omega) (by omega))]
      exact ih (by omega) (by omega)
theorem sS_at {A : Ab} {k : Nat} : ∀ n, k < n → sS A n k = nI (xs A k) := by
  intro n
  induction n with
  | zero => intro h; omega
  | succ n ih =>
    intro hk
    show (if k = n then nI (xs A n) else sS A n k) = _
    by_cases q : k = n
    · rw [if_pos q, q]
    · rw [if_neg q]
      exact ih (by omega)
theorem gT_gi {B : Nat} {A : Ab} {g : Nat → Rw} (w : Wf B [] A) : ∀ j, j ≤ 6 → (∀ k, k < j → rwOk B (g k)) → GI B A (gT A g j) j := by
  intro j
  induction j with
  | zero => exact fun _ _ => gi_0 w
  | succ j ih => exact fun hj hg => gi_next (ih (by omega) (fun k hk => hg k (by omega))) (by omega) (hg j (by omega))
def dl (Q : Rw) (w k : Nat) : Nat := min w (Q.2.1 - k * w)
def dlP (Q : Rw) (w i k : Nat) : Rw := fillR (newR Q.1 (dl Q w k)) 0 (min (dl Q w k) (i - k * w)) (fun j => cvt Q.1 (Q.2.2 (k * w + j)))
def dlR (Q : Rw) (w k : Nat) : Rw := fillR (newR Q.1 (dl Q w k)) 0 (dl Q w k) (fun j => cvt Q.1 (Q.2.2 (k * w + j)))
theorem dlP_0 {Q : Rw} {w k : Nat} : dlP Q w 0 k = newR Q.1 (dl Q w k) := by
  unfold dlP
  rw [Nat.zero_sub, Nat.min_zero, fillR_0]
theorem dlP_n {Q : Rw} {w k : Nat} : dlP Q w Q.2.1 k = dlR Q w k := by
  unfold dlP dlR
  have : min (dl Q w k) (Q.2.1 - k * w) = dl Q w k := Nat.min_eq_left (Nat.min_le_right _ _)
  rw [this]
theorem dlP_s {Q : Rw} {w i : Nat} (hw : 0 < w) (hi : i < Q.2.1) : dlP Q w (i + 1) (i / w) = setC (dlP Q w i (i / w)) (i % w) (cvt Q.1 (Q.2.2 i)) := by
  have e := Nat.div_add_mod i w
  have lt := Nat.mod_lt i hw
  have e : i / w * w + i % w = i := by rw [Nat.mul_comm]; exact e
  unfold dlP
  have m1 : min (dl Q w (i / w)) (i - i / w * w) = i % w := by
    unfold dl
    omega
  have m2 : min (dl Q w (i / w)) (i + 1 - i / w * w) = i % w + 1 := by
    unfold dl
    omega
  rw [m1, m2, fillR_s, Nat.zero_add, e]
theorem dlP_ne {Q : Rw} {w i k : Nat} (hw : 0 < w) (hk : k ≠ i / w) : dlP Q w (i + 1) k = dlP Q w i k := by
  have e := Nat.div_add_mod i w
  have lt := Nat.mod_lt i hw
  have e : i / w * w + i % w = i := by rw [Nat.mul_comm]; exact e
  unfold dlP
  have : min (dl Q w k) (i + 1 - k * w) = min (dl Q w k) (i - k * w) := by
    unfold dl
    by_cases q : k < i / w
    · have := Nat.mul_le_mul_right w (show k + 1 ≤ i / w by omega)
      rw [Nat.add_mul, Nat.one_mul] at this
      omega
    · have := Nat.mul_le_mul_right w (show i / w + 1 ≤ k by omega)
      rw [Nat.add_mul, Nat.one_mul] at this
      omega
  rw [this]
theorem step_deal {B : Nat} (hB : 16 ≤ B) (g p v h : Int32) : Step B B (fX11_dealOut (some 268) g p v h) (fX13_dealDeed (some 289) g p v h) := by
  intro A w
  cases hg : inB g 0 3
  · exact step_ro (-1) w (fun h0 h c => by simp only [fX11_dealOut, hg, dnB_eval, c_isGrid, c_isKind, c_isSort, c_isPlain, r_isGrid, r_isKind, r_isSort, r_isPlain, r_in, dnP, Bool.false_eq_true, if_false, if_true]) (fun q0 q r => by simp only [fX13_dealDeed, hg, dnB_eval, c_isGrid, c_isKind, c_isSort, c_isPlain, r_isGrid, r_isKind, r_isSort, r_isPlain, r_in, dnP, Bool.false_eq_true, if_false, if_true])
  cases hh2 : inB h 0 3
  · refine step_ro (-1) w (fun h0 h c => by simp only [fX11_dealOut, hg, hh2, dnB_eval, c_isGrid, c_isKind, c_isSort, c_isPlain, r_isGrid, r_isKind, r_isSort, r_isPlain, r_in, dnP, Bool.false_eq_true, if_false, if_true]) (fun q0 q r => ?_)
    cases hv : inB v 1 12
    · simp only [fX13_dealDeed, hg, hv, dnB_eval, c_isGrid, c_isKind, c_isSort, c_isPlain, r_isGrid, r_isKind, r_isSort, r_isPlain, r_in, dnP, Bool.false_eq_true, if_false, if_true]
    · simp only [fX13_dealDeed, hg, hv, hh2, dnB_eval, c_isGrid, c_isKind, c_isSort, c_isPlain, r_isGrid, r_isKind, r_isSort, r_isPlain, r_in, dnP, Bool.false_eq_true, if_false, if_true]
  cases hv : inB v 1 12
  · have h1 : ¬ (1 ≤ v ∧ v ≤ 12) := of_decide_eq_false hv
    refine step_ro (-1) w (fun h0 h c => ?_) (fun q0 q r => by simp only [fX13_dealDeed, hg, hv, dnB_eval, c_isGrid, c_isKind, c_isSort, c_isPlain, r_isGrid, r_isKind, r_isSort, r_isPlain, r_in, dnP, Bool.false_eq_true, if_false, if_true])
    by_cases c0 : v < 1
    · simp only [fX11_dealOut, hg, hh2, c0, dnB_eval, c_isGrid, c_isKind, c_isSort, c_isPlain, r_isGrid, r_isKind, r_isSort, r_isPlain, r_in, dnP, Bool.false_eq_true, if_false, if_true]
    · have c2 : ¬ v ≤ 12 := fun hc => h1 ⟨Int32.not_lt.mp c0, hc⟩
      simp only [fX11_dealOut, hg, hh2, c0, c2, dnB_eval, c_isGrid, c_isKind, c_isSort, c_isPlain, r_isGrid, r_isKind, r_isSort, r_isPlain, r_in, dnP, Bool.false_eq_true, if_false, if_true]
  obtain ⟨v1, v12⟩ := of_decide_eq_true hv
  obtain ⟨u, hu12, rfl⟩ := inB_of (n := 12) (p := v) (by decide) (decide_eq_true ⟨Int32.le_trans (by decide) v1, v12⟩)
  have hu1 : 1 ≤ u := (nI_leI (a := 1) (b := u) (by decide) (by omega)).mp v1
  have x1 : ¬ nI u < 1 := Int32.not_lt.mpr v1
  obtain ⟨H, hH, rfl⟩ := inB_of (n := 3) (by decide) hh2
  have hH : H < 4 := by omega
  rcases lookR w g p with ⟨f, f0, -, f2, f3⟩ | ⟨G, P, m, r, hG, hP, hm, hr, rfl, rfl, e1, e2, -, hl, -, hrw, l1, l2⟩
  · obtain ⟨n1, n2⟩ := neg_fault f0
    exact step_ro f w (fun h0 h c => by simp only [fX11_dealOut, hg, hh2, x1, v12, g_268_0 c.1, sv (st1 c.1), (f2 h0 _ _ h c).1, (f2 h0 _ _ h c).2, Option.elim, dnB_eval, c_isGrid, c_isKind, c_isSort, c_isPlain, r_isGrid, r_isKind, r_isSort, r_isPlain, r_in, dnP, Bool.false_eq_true, if_false, if_true]) (fun q0 q r => by simp only [fX13_dealDeed, hg, hv, hh2, v_289 r.1, f3 hg q0 _ q r, n1, dnB_eval, c_isGrid, c_isKind, c_isSort, c_isPlain, r_isGrid, r_isKind, r_isSort, r_isPlain, r_in, dnP, Bool.false_eq_true, if_false, if_true])
  have N1 := hrw.2.1
  have nz : ¬ nI u = 0 := fun hc => by
    have := (nI_eq (a := u) (b := 0) (by omega) (by decide)).mp hc
    omega
  have ed : (nI (A.2.2.1 r).2.1 + nI u - 1) / nI u = nI (((A.2.2.1 r).2.1 + u - 1) / u) := by rw [nI_add, nI_sub1 (by omega), div_I (by omega) (by omega)]
  have dle : ((A.2.2.1 r).2.1 + u - 1) / u ≤ 23 := Nat.le_trans (Nat.div_le_self _ _) (by omega)
  have g6 : (nI (((A.2.2.1 r).2.1 + u - 1) / u) ≤ 6) ↔ ((A.2.2.1 r).2.1 + u - 1) / u ≤ 6 := nI_leI (b := 6) (by omega) (by decide)
  have dm := Nat.div_add_mod ((A.2.2.1 r).2.1 + u - 1) u
  have dm2 := Nat.mod_lt ((A.2.2.1 r).2.1 + u - 1) (show 0 < u by omega)
  generalize hN : ((A.2.2.1 r).2.1 + u - 1) / u = N at ed dle g6 dm
  by_cases hF : N ≤ 6
  case neg => exact step_ro (-10) w (fun h0 h c => by simp only [fX11_dealOut, hg, hh2, x1, v12, g_268_0 c.1, sv (st1 c.1), l1 h0 _ _ h c, Option.elim, rg_i (row1 c.1 hr), (c.row hr hl).2.1, dnNz, nz, ed, g6, hF, dnB_eval, c_isGrid, c_isKind, c_isSort, c_isPlain, r_isGrid, r_isKind, r_isSort, r_isPlain, r_in, dnP, Bool.false_eq_true, if_false, if_true]) (fun q0 k r' => by simp only [fX13_dealDeed, hg, hv, hh2, v_289 r'.1, (l2 q0 _ k r').1, (l2 q0 _ k r').2, g_289_7 r'.1, len_A r' hr hl, dnNz, nz, ed, g6, hF, dnB_eval, c_isGrid, c_isKind, c_isSort, c_isPlain, r_isGrid, r_isKind, r_isSort, r_isPlain, r_in, dnP, Bool.false_eq_true, if_false, if_true])
  have kl : ∀ k, k < N → k * u < (A.2.2.1 r).2.1 := fun k hk => by
    have := Nat.mul_le_mul_left u (show k + 1 ≤ N by omega)
    rw [Nat.mul_add, Nat.mul_one, Nat.mul_comm u k] at this
    omega
  have dle2 : ∀ k, dl (A.2.2.1 r) u k ≤ 12 := fun k => by unfold dl; omega
  have cels : ∀ k j, j < dl (A.2.2.1 r) u k → k * u + j < (A.2.2.1 r).2.1 := fun k j hj => by unfold dl at hj; omega
  have okN : ∀ k, rwOk B (newR (A.2.2.1 r).1 (dl (A.2.2.1 r) u k)) := fun k => rwOk_new hB hrw.1 (dle2 k)
  have okP : ∀ i k, rwOk B (dlP (A.2.2.1 r) u i k) := fun i k => rwOk_fill (okN k) (fun j hj => by
    have := cels k j (by omega)
    rw [cvt_self (hrw.2.2 _ (by omega))]
    exact hrw.2.2 _ (by omega))
  have gi := gT_gi (g := dlR (A.2.2.1 r) u) w N hF (fun k _ => by rw [← dlP_n]; exact okP _ k)
  have gj := fun j (hj : j ≤ 6) => gT_gi (g := dlR (A.2.2.1 r) u) w j hj (fun k _ => by rw [← dlP_n]; exact okP _ k)
  have g0 := fun i j (hj : j ≤ 6) => gT_gi (g := dlP (A.2.2.1 r) u i) w j hj (fun k _ => okP i k)
  refine ⟨nI N, gridOf (gT A (dlR (A.2.2.1 r) u) N).1 H (nI N) (gT A (dlR (A.2.2.1 r) u) N).2.2, gi_wf gi hF, fun h0 h c => ?_, fun q0 k r' => ?_⟩
  · obtain ⟨a1, c1, a2⟩ := startGrid_A (v := nI N) c
    have KK := it_inv (f := fX11_dealOut_b89 (some 268) (nI u) (nI H) (some (5 + 4 * r)) (nI N)) (Q := fun _ k => CS h0 (gT A (dlR (A.2.2.1 r) u) N).2.2 (gT A (dlR (A.2.2.1 r) u) N).2.1 k (gT A (dlR (A.2.2.1 r) u) N).1 ∧ k.2.1 2 4 = nI N) (fun j s k => s = nI j ∧ CS h0 (gT A (dlR (A.2.2.1 r) u) j).2.2 (gT A (dlR (A.2.2.1 r) u) j).2.1 k (gT A (dlR (A.2.2.1 r) u) j).1 ∧ k.2.1 2 4 = nI N) N 1000 0 (by omega) (by omega) ?_ ?_ (nI 0) (dnSI h 2 4 (nI N)) ⟨rfl, c1, a2⟩
    · obtain ⟨_, h2, b1, c2, b2⟩ := KK
      rw [nI_0] at b1
      obtain ⟨h3, d1, c3⟩ := gi_cls gi hH c2 b2
      refine ⟨h3, ?_, c3⟩
      simp only [fX11_dealOut, hg, hh2, x1, v12, g_268_0 c.1, sv (st1 c.1), l1 h0 _ _ h c, Option.elim, rg_i (row1 c.1 hr), (c.row hr hl).2.1, dnNz, nz, ed, g6, hF, a1, b1, g_268_0 c2.1, sv (st1 c2.1), d1, dnB_eval, c_isGrid, c_isKind, c_isSort, c_isPlain, r_isGrid, r_isKind, r_isSort, r_isPlain, r_in, dnP, Bool.false_eq_true, if_false, if_true]
    · rintro j s k hj ⟨rfl, ck, fk⟩
      left
      have hc : ¬ (nI N ≤ nI j) := fun hc => by have := (nI_leI (a := N) (b := j) (by omega) (by omega)).mp hc; omega
      have gij := gj j (by omega)
      have hf := gi_fr gij (show j ≤ 6 by omega)
      have lj := gi_liv gij hl
      have rr := ck.row hr lj
      rw [gij.2.2.2.2.2.2.2 r hl] at rr
      have klj := kl j hj
      have mi : fJ9_min_7cf53 (nI u) (nI (A.2.2.1 r).2.1 - nI (j * u)) = dnP (nI (dl (A.2.2.1 r) u j)) := by
        rw [nI_sub (by omega)]
        unfold fJ9_min_7cf53 dl
        by_cases q : (A.2.2.1 r).2.1 - j * u < u
        · rw [if_pos ((nI_ltI (by omega) (by omega)).mpr q), Nat.min_eq_right (by omega)]
        · rw [if_neg (fun hc => q ((nI_ltI (by omega) (by omega)).mp hc)), Nat.min_eq_left (by omega)]
      obtain ⟨k1, b1, c2, f1⟩ := newGrid_E (p := j) (kd := (A.2.2.1 r).1) (ln := dl (A.2.2.1 r) u j) ck gij.2.2.1 hf (by omega) hrw.1
      have hne : r ≠ frN (gT A (dlR (A.2.2.1 r) u) j).2.1 (gT A (dlR (A.2.2.1 r) u) j).1 := fun e => hf.2.1 (e ▸ lj)
      have hx1 := hf.1
      have lr2 : live (frN (gT A (dlR (A.2.2.1 r) u) j).2.1 (gT A (dlR (A.2.2.1 r) u) j).1 :: (gT A (dlR (A.2.2.1 r) u) j).2.1) (gT A (dlR (A.2.2.1 r) u) j).1 r := live_mono (fun m hm => List.mem_cons.mpr (.inr hm)) lj
      have rr2 := c2.row hr lr2
      rw [setR_ne hne, gij.2.2.2.2.2.2.2 r hl] at rr2
      have rx := c2.row hx1 (.inl (List.mem_cons.mpr (.inl rfl)))
      rw [setR_at] at rx
      obtain ⟨k2, d1, d2, d3⟩ := append_H (B := B) (a := 0) (i := j * u) (n := dl (A.2.2.1 r) u j) (row1 c2.1 hx1) (row1 c2.1 hr) rx rr2 (by omega) (okN j) (by have := dle2 j; omega) (by unfold dl; omega) (fun i hi => by
        have := cels j i hi
        exact ⟨(hrw.2.2 _ (by omega)).1, (hrw.2.2 _ (by omega)).2.1, (hrw.2.2 _ (by omega)).2.2.2⟩)
      rw [nI_0] at d1
      have c3 := c2.setRow (Y := frN (gT A (dlR (A.2.2.1 r) u) j).2.1 (gT A (dlR (A.2.2.1 r) u) j).1 :: (gT A (dlR (A.2.2.1 r) u) j).2.1) hx1 (fun m hm => .inr hm) d2 d3
      rw [setR_setR] at c3
      refine ⟨nI (j + 1), k2, ?_, rfl, c3, ?_⟩
      · simp only [fX11_dealOut_b89, hc, if_false, dnB_eval, rg_i (row1 ck.1 hr), rr.2.1, rr.1, mi, g_268_0 ck.1, sv (st1 ck.1), b1, nI_mul, d1, dnP, nI_1]
      · rw [(d2.1.2.2 2 (by omega)).1, f1]
        exact fk
    · rintro s k ⟨rfl, ck, fk⟩
      exact ⟨(), k, by simp only [fX11_dealOut_b89, Int32.le_refl, if_true, dnP], ck, fk⟩
  · have ph1 := it_inv (f := fX13_dealDeed_b79 (some 289) (nI u) (nI H) (nI r) (nI N)) (Q := fun _ k => RS q0 (gT A (dlP (A.2.2.1 r) u 0) N).2.1 k (gT A (dlP (A.2.2.1 r) u 0) N).1 ∧ ∀ p, p < N → k.2.1 302 p = rc ((gT A (dlP (A.2.2.1 r) u 0) N).2.2 p)) (fun j s k => s = nI j ∧ RS q0 (gT A (dlP (A.2.2.1 r) u 0) j).2.1 k (gT A (dlP (A.2.2.1 r) u 0) j).1 ∧ ∀ p, p < j → k.2.1 302 p = rc ((gT A (dlP (A.2.2.1 r) u 0) j).2.2 p)) N 1000 0 (by omega) (by omega) ?_ ?_ (nI 0) k ⟨rfl, r', fun p hp => by omega⟩
    · obtain ⟨_, k2, b1, r2, b2⟩ := ph1
      rw [nI_0] at b1
      rw [gT_eq] at r2 b2
      have liv : ∀ i, live (xl A N) (stR A (dlP (A.2.2.1 r) u i) N) r := fun i => by
        have := gi_liv (g0 i N hF) hl
        rw [gT_eq] at this
        exact this
      have rwr : ∀ i, (stR A (dlP (A.2.2.1 r) u i) N).2.2.1 r = A.2.2.1 r := fun i => by
        have := (g0 i N hF).2.2.2.2.2.2.2 r hl
        rw [gT_eq] at this
        exact this
      have lx : ∀ i k, RS q0 (xl A N) k (stR A (dlP (A.2.2.1 r) u i) N) → dnAI (some 294) 100 (nI r) k = some (nI (A.2.2.1 r).2.1, k) := fun i k rk => by
        have := len_A rk hr (liv i)
        rw [rwr i] at this
        exact this
      have ph2 := it_inv (f := fX13_dealDeed_b139 (some 289) (nI u) (nI H) (nI r) (nI N)) (Q := fun _ k => RS q0 (xl A N) k (stR A (dlP (A.2.2.1 r) u (A.2.2.1 r).2.1) N) ∧ ∀ p, p < N → k.2.1 302 p = rc (sS A N p)) (fun i s k => s = nI i ∧ RS q0 (xl A N) k (stR A (dlP (A.2.2.1 r) u i) N) ∧ ∀ p, p < N → k.2.1 302 p = rc (sS A N p)) (A.2.2.1 r).2.1 1000 0 (by omega) (by omega) ?_ ?_ (nI 0) k2 ⟨rfl, r2, b2⟩
      · obtain ⟨_, k3, d1, r3, d2⟩ := ph2
        rw [nI_0] at d1
        have es : stR A (dlP (A.2.2.1 r) u (A.2.2.1 r).2.1) N = stR A (dlR (A.2.2.1 r) u) N := stR_congr N (fun k _ => dlP_n)
        rw [es] at r3
        have gi2 := gi
        rw [gT_eq] at gi2
        obtain ⟨k4, t1, r4⟩ := gi_ref gi2 hH hF r3 d2
        rw [gT_eq]
        refine ⟨k4, _, ?_, r4⟩
        simp only [fX13_dealDeed, hg, hv, hh2, v_289 r'.1, (l2 q0 _ k r').1, (l2 q0 _ k r').2, g_289_7 r'.1, len_A r' hr hl, dnNz, nz, ed, g6, hF, b1, d1, v_289 r3.1, t1, dnB_eval, c_isGrid, c_isKind, c_isSort, c_isPlain, r_isGrid, r_isKind, r_isSort, r_isPlain, r_in, dnP, Bool.false_eq_true, if_false, if_true]
      · rintro i s k hi ⟨rfl, rk, fk⟩
        left
        have hc : ¬ (nI (A.2.2.1 r).2.1 ≤ nI i) := fun hc => by have := (nI_leI (a := (A.2.2.1 r).2.1) (b := i) (by omega) (by omega)).mp hc; omega
        have qlt : i / u < N := by
          rw [Nat.div_lt_iff_lt_mul (by omega)]
          have : u * N = N * u := Nat.mul_comm _ _
          omega
        have em := Nat.div_add_mod i u
        have em : i / u * u + i % u = i := by rw [Nat.mul_comm]; exact em
        have el := Nat.mod_lt i (show 0 < u by omega)
        have hxl : xs A (i / u) ∈ xl A N := by
          have := xs_mem (A := A) (k := i / u) (N - (i / u + 1))
          rw [show i / u + 1 + (N - (i / u + 1)) = N by omega] at this
          exact this
        have hx1 : xs A (i / u) < 31 := (frN_is (X := xl A (i / u)) (A := A) (by rw [xl_len]; omega)).1
        have at1 := stR_at (A := A) (g := dlP (A.2.2.1 r) u i) N qlt hF
        have i1 := dnIn_nI (show i / u < 6 by omega) (by decide)
        have i2 : (nI (i / u)).toNatClampNeg = i / u := nI_clamp (by omega)
        have hm := fk (i / u) qlt
        rw [sS_at N qlt, rc_nI hx1] at hm
        obtain ⟨k5, t1, t2, t3⟩ := copies_E (B := B) (i := i) (j := i % u) rk hr (liv i) (by omega) hx1 (.inl hxl) (by omega) (by rw [at1]; exact hrw.1) (by rw [rwr i]; exact hrw.2.2 i (by omega))
        rw [at1, rwr i] at t2
        have t2 : RS q0 (xl A N) k5 (if tk (A.2.2.1 r).1 ((A.2.2.1 r).2.2 i).1 = true then setR (stR A (dlP (A.2.2.1 r) u i) N) (xs A (i / u)) (setC (dlP (A.2.2.1 r) u i (i / u)) (i % u) (cvt (A.2.2.1 r).1 ((A.2.2.1 r).2.2 i))) else stR A (dlP (A.2.2.1 r) u i) N) := t2
        rw [if_pos (hrw.2.2 i (by omega)).2.1, ← dlP_s (by omega) hi, stR_upd N qlt hF, stR_congr N (g2 := dlP (A.2.2.1 r) u (i + 1)) (fun k _ => (by
          by_cases q : k = i / u
          · rw [if_pos q, q]
          · rw [if_neg q]; exact (dlP_ne (by omega) q).symm))] at t2
        have emod : nI i - nI (i / u) * nI u = nI (i % u) := by
          rw [nI_mul, nI_sub (by omega), show i - i / u * u = i % u by omega]
        refine ⟨nI (i + 1), k5, ?_, rfl, t2, fun p hp => by rw [t3]; exact fk p hp⟩
        simp only [fX13_dealDeed_b139, dnB_eval, g_289_7 rk.1, lx i k rk, hc, if_false, g_289_18 rk.1, dnNz, nz, div_I (show i < 2 ^ 31 by omega) (show u < 2 ^ 31 by omega), a_302 rk.1, i1, i2, if_true, hm, emod, v_289 rk.1, t1, dnP, nI_1]
      · rintro s k ⟨rfl, rk, fk⟩
        exact ⟨(), k, by simp only [fX13_dealDeed_b139, dnB_eval, g_289_7 rk.1, lx _ k rk, Int32.le_refl, if_true, dnP], rk, fk⟩
    · rintro j s k hj ⟨rfl, rk, fk⟩
      left
      have hc : ¬ (nI N ≤ nI j) := fun hc => by have := (nI_leI (a := N) (b := j) (by omega) (by omega)).mp hc; omega
      have gij := g0 0 j (show j ≤ 6 by omega)
      have hf := gi_fr gij (show j ≤ 6 by omega)
      have lj := gi_liv gij hl
      have klj := kl j hj
      have lr := len_A rk hr lj
      have kr := kind_A rk hr lj
      rw [gij.2.2.2.2.2.2.2 r hl] at lr kr
      obtain ⟨k2, b1, b2, b3⟩ := newRow_E (kd := (A.2.2.1 r).1) (ln := dl (A.2.2.1 r) u j) rk gij.1.2.1 hf hrw.1
      have b2 : RS q0 (frN (gT A (dlP (A.2.2.1 r) u 0) j).2.1 (gT A (dlP (A.2.2.1 r) u 0) j).1 :: (gT A (dlP (A.2.2.1 r) u 0) j).2.1) k2 (setR (gT A (dlP (A.2.2.1 r) u 0) j).1 (frN (gT A (dlP (A.2.2.1 r) u 0) j).2.1 (gT A (dlP (A.2.2.1 r) u 0) j).1) (dlP (A.2.2.1 r) u 0 j)) := by rw [dlP_0]; exact b2
      obtain ⟨d1, r3⟩ := made_A (p := j) (v := nI (frN (gT A (dlP (A.2.2.1 r) u 0) j).2.1 (gT A (dlP (A.2.2.1 r) u 0) j).1)) b2 (by omega)
      refine ⟨nI (j + 1), _, ?_, rfl, r3, made_nx hf.1 (fun p hp => by rw [b3]; exact fk p hp)⟩
      have le : (nI u ≤ nI (A.2.2.1 r).2.1 - nI j * nI u) ↔ u ≤ (A.2.2.1 r).2.1 - j * u := by
        rw [nI_mul, nI_sub (by omega)]
        exact nI_leI (by omega) (by omega)
      have sub : nI (A.2.2.1 r).2.1 - nI j * nI u = nI ((A.2.2.1 r).2.1 - j * u) := by rw [nI_mul, nI_sub (by omega)]
      simp only [fX13_dealDeed_b79, fX13_dealDeed_j126, hc, if_false, dnB_eval, g_289_7 rk.1, lr, g_289_18 rk.1, g_289_6 rk.1, kr, le]
      by_cases q : u ≤ (A.2.2.1 r).2.1 - j * u
      · have ed : dl (A.2.2.1 r) u j = u := by unfold dl; omega
        rw [ed] at b1
        simp only [q, if_true, dnB_eval, v_289 rk.1, b1, d1, dnP, nI_1]
      · have ed : dl (A.2.2.1 r) u j = (A.2.2.1 r).2.1 - j * u := by unfold dl; omega
        rw [ed] at b1
        simp only [q, if_false, dnB_eval, v_289 rk.1, sub, b1, d1, dnP, nI_1]
    · rintro s k ⟨rfl, rk, fk⟩
      exact ⟨(), k, by simp only [fX13_dealDeed_b79, Int32.le_refl, if_true, dnP], rk, fk⟩

theorem call_deal {B : Nat} (hB : 16 ≤ B) (g p v h : Int32) : Call B B (fX12_deal (some 0) g p v h) (fX13_deal (some 289) g p v h) :=
  callA (Nat.le_refl _) (fun h v h1 s1 s2 e => by simp only [fX12_deal, dnB_eval, g_0_5 s1, v_268 s1, e, v_0 s2, tally_c s2, dnP]) (fun h v h1 s1 s2 e => by simp only [fX13_deal, dnB_eval, v_289 s1, e, v_289 s2, said_r s2, dnP]) (step_deal hB g p v h)
