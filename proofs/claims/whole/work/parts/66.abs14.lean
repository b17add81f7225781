/-! ABS 14: cast, pour -/
theorem setR_self {A : Ab} {r : Nat} : setR A r (A.2.2.1 r) = A := by
  unfold setR
  have : (fun m => if m = r then A.2.2.1 r else A.2.2.1 m) = A.2.2.1 := by
    funext m
    split
    · rename_i q; rw [q]
    · rfl
  rw [this]
theorem accept_S {B : Nat} {h0 h : dnH} {S : Nat → Int32} {X : List Nat} {A : Ab} {x r i j : Nat} (c : CS h0 S X h A) (hx : x < 31) (hlx : live X A x) (hr : r < 31) (hlr : live X A r) (hi : i < 12) (hj : j < 12) (wx : rwOk B (A.2.2.1 x)) (wr : celOk B (A.2.2.1 r).1 ((A.2.2.1 r).2.2 j)) :
    ∃ h2, fX5_accept (some (5 + 4 * x)) (nI i) (some (5 + 4 * r)) (nI j) h = some (tk (A.2.2.1 x).1 ((A.2.2.1 r).2.2 j).1, h2) ∧ CS h0 S X h2 (if tk (A.2.2.1 x).1 ((A.2.2.1 r).2.2 j).1 = true then setR A x (setC (A.2.2.1 x) i (cvt (A.2.2.1 x).1 ((A.2.2.1 r).2.2 j))) else A) := by
  obtain ⟨h2, b1, b2, b3⟩ := accept_A (B := B) (i := i) (j := j) (row1 c.1 hx) (row1 c.1 hr) (c.row hx hlx) (c.row hr hlr) hi hj wx.1 (wx.2.2 i hi) wr.1 wr.2.2.2 (fun e _ h8 => by
    have e : x = r := by omega
    subst e
    exact wr.2.2.1 h8)
  refine ⟨h2, b1, ?_⟩
  have c2 := c.setRow (Y := X) hx (fun m hm => .inr hm) b2 b3
  split
  · rename_i ht
    rw [if_pos ht] at c2
    exact c2
  · rename_i ht
    rw [if_neg ht, setR_self] at c2
    exact c2
theorem accept_F {B : Nat} {h0 h : dnH} {S : Nat → Int32} {X : List Nat} {A : Ab} {x r i a k : Nat} {R : Rw} {f : Nat → Cel} (c : CS h0 S X h (setR A x (fillR R a k f))) (hx : x < 31) (hlx : live X A x) (hr : r < 31) (hlr : live X A r) (hne : r ≠ x) (hi : i < 12) (hj : a + k < 12) (hR : rwOk B (fillR R a k f)) (w : celOk B (A.2.2.1 r).1 ((A.2.2.1 r).2.2 i)) (ht : tk R.1 ((A.2.2.1 r).2.2 i).1 = true) (hf : f k = cvt R.1 ((A.2.2.1 r).2.2 i)) :
    ∃ h2, fX5_accept (some (5 + 4 * x)) (nI (a + k)) (some (5 + 4 * r)) (nI i) h = some (true, h2) ∧ CS h0 S X h2 (setR A x (fillR R a (k + 1) f)) := by
  have e1 : (setR A x (fillR R a k f)).2.2.1 r = A.2.2.1 r := setR_ne hne
  have e2 : (setR A x (fillR R a k f)).2.2.1 x = fillR R a k f := setR_at
  obtain ⟨h2, b1, b2⟩ := accept_S (B := B) (i := a + k) (j := i) c hx hlx hr hlr hj hi (by rw [e2]; exact hR) (by rw [e1]; exact w)
  rw [e1, e2] at b1 b2
  have b1 : fX5_accept (some (5 + 4 * x)) (nI (a + k)) (some (5 + 4 * r)) (nI i) h = some (tk R.1 ((A.2.2.1 r).2.2 i).1, h2) := b1
  have b2 : CS h0 S X h2 (if tk R.1 ((A.2.2.1 r).2.2 i).1 = true then setR (setR A x (fillR R a k f)) x (setC (fillR R a k f) (a + k) (cvt R.1 ((A.2.2.1 r).2.2 i))) else setR A x (fillR R a k f)) := b2
  rw [if_pos ht, setR_setR, ← hf, ← fillR_s] at b2
  rw [ht] at b1
  exact ⟨h2, b1, b2⟩
theorem accept_N {B : Nat} {h0 h : dnH} {S : Nat → Int32} {X : List Nat} {A : Ab} {x r i j : Nat} (c : CS h0 S X h A) (hx : x < 31) (hlx : live X A x) (hr : r < 31) (hlr : live X A r) (hi : i < 12) (hj : j < 12) (wx : rwOk B (A.2.2.1 x)) (wr : celOk B (A.2.2.1 r).1 ((A.2.2.1 r).2.2 j)) (ht : tk (A.2.2.1 x).1 ((A.2.2.1 r).2.2 j).1 = false) : ∃ h2, fX5_accept (some (5 + 4 * x)) (nI i) (some (5 + 4 * r)) (nI j) h = some (false, h2) ∧ CS h0 S X h2 A := by
  obtain ⟨h2, b1, b2⟩ := accept_S (B := B) (i := i) (j := j) c hx hlx hr hlr hi hj wx wr
  rw [ht] at b1 b2
  exact ⟨h2, b1, b2⟩
theorem step_cast {B : Nat} (hB : 16 ≤ B) (g p kd : Int32) : Step B B (fX6_castRow (some 259) g p kd) (fX13_castDeed (some 289) g p kd) := by
  intro A w
  cases hg : inB g 0 3
  · exact step_ro (-1) w (fun h0 h c => by simp only [fX6_castRow, hg, dnB_eval, c_isGrid, c_isKind, c_isSort, c_isPlain, r_isGrid, r_isKind, r_isSort, r_isPlain, r_in, dnP, Bool.false_eq_true, if_false, if_true]) (fun q0 q r => by simp only [fX13_castDeed, hg, dnB_eval, c_isGrid, c_isKind, c_isSort, c_isPlain, r_isGrid, r_isKind, r_isSort, r_isPlain, r_in, dnP, Bool.false_eq_true, if_false, if_true])
  cases hk : inB kd 0 11
  · exact step_ro (-1) w (fun h0 h c => by simp only [fX6_castRow, hg, hk, dnB_eval, c_isGrid, c_isKind, c_isSort, c_isPlain, r_isGrid, r_isKind, r_isSort, r_isPlain, r_in, dnP, Bool.false_eq_true, if_false, if_true]) (fun q0 q r => by simp only [fX13_castDeed, hg, hk, dnB_eval, c_isGrid, c_isKind, c_isSort, c_isPlain, r_isGrid, r_isKind, r_isSort, r_isPlain, r_in, dnP, Bool.false_eq_true, if_false, if_true])
  obtain ⟨K, hK, rfl⟩ := inB_of (n := 11) (by decide) hk
  have hK : K < 12 := by omega
  rcases lookR w g p with ⟨f, f0, -, f2, f3⟩ | ⟨G, P, m, r, hG, hP, hm, hr, rfl, rfl, e1, e2, -, hl, -, hrw, l1, l2⟩
  · obtain ⟨n1, n2⟩ := neg_fault f0
    exact step_ro f w (fun h0 h c => by simp only [fX6_castRow, hg, hk, g_259_0 c.1, sv (st1 c.1), (f2 h0 _ _ h c).1, (f2 h0 _ _ h c).2, Option.elim, dnB_eval, c_isGrid, c_isKind, c_isSort, c_isPlain, r_isGrid, r_isKind, r_isSort, r_isPlain, r_in, dnP, Bool.false_eq_true, if_false, if_true]) (fun q0 q r => by simp only [fX13_castDeed, hg, hk, v_289 r.1, f3 hg q0 _ q r, n1, dnB_eval, c_isGrid, c_isKind, c_isSort, c_isPlain, r_isGrid, r_isKind, r_isSort, r_isPlain, r_in, dnP, Bool.false_eq_true, if_false, if_true])
  have N1 := hrw.2.1
  obtain ⟨x, hx⟩ := exFr (X := []) A (by decide)
  have hx1 := hx.1
  have hrx : r ≠ x := fun e => hx.2.1 (e ▸ hl)
  have hlx : live [x] A x := .inl (List.mem_singleton.mpr rfl)
  have hlr : live [x] A r := live_mono subN hl
  have hnew := rwOk_new (B := B) (kd := K) (n := (A.2.2.1 r).2.1) hB hK N1
  have hfil : ∀ j, (∀ i, i < j → tk K ((A.2.2.1 r).2.2 i).1 = true) → j ≤ 12 → rwOk B (fillR (newR K (A.2.2.1 r).2.1) 0 j (fun k => cvt K ((A.2.2.1 r).2.2 k))) := fun j hj hj2 => rwOk_fill hnew (fun k hk => celOk_cvt hB hK (hrw.2.2 k (by omega)).1 (hj k hk) (hrw.2.2 k (by omega)).2.2.2)
  -- a turn of the class's loop at a cell that is taken
  have cstep : ∀ h0 k j, CS h0 sp0 [x] k (setR A x (fillR (newR K (A.2.2.1 r).2.1) 0 j (fun k => cvt K ((A.2.2.1 r).2.2 k)))) → j < (A.2.2.1 r).2.1 → (∀ i, i < j → tk K ((A.2.2.1 r).2.2 i).1 = true) → tk K ((A.2.2.1 r).2.2 j).1 = true → ∃ k2, fX6_castRow_b60 (some 259) (nI G) (nI P) (some (5 + 4 * r)) (some (5 + 4 * x)) (nI j) k = some (.inl (nI (j + 1)), k2) ∧ CS h0 sp0 [x] k2 (setR A x (fillR (newR K (A.2.2.1 r).2.1) 0 (j + 1) (fun k => cvt K ((A.2.2.1 r).2.2 k)))) := fun h0 k j ck hj hlo ht => by
    have hc : ¬ (nI (A.2.2.1 r).2.1 ≤ nI j) := fun hc => by have := (nI_leI (a := (A.2.2.1 r).2.1) (b := j) (by omega) (by omega)).mp hc; omega
    obtain ⟨h2, b1, b2⟩ := accept_F (B := B) (i := j) ck hx1 hlx hr hlr hrx (by omega) (by omega) (hfil j hlo (by omega)) (hrw.2.2 _ (by omega)) ht rfl
    rw [Nat.zero_add] at b1
    have rr := ck.row hr hlr
    rw [setR_ne hrx] at rr
    exact ⟨h2, by simp only [fX6_castRow_b60, dnB_eval, rg_i (row1 ck.1 hr), rr.2.1, hc, if_false, rv (row1 ck.1 hx1), b1, if_true, dnP, nI_1], b2⟩
  rcases first_of (fun i => !tk K ((A.2.2.1 r).2.2 i).1) (A.2.2.1 r).2.1 with hf | ⟨I, hI, hI1, hI2⟩
  · have hall : ∀ i, i < (A.2.2.1 r).2.1 → tk K ((A.2.2.1 r).2.2 i).1 = true := fun i hi => by simpa using hf i hi
    refine ⟨nI (A.2.2.1 r).2.1, setH (setR A x (fillR (newR K (A.2.2.1 r).2.1) 0 (A.2.2.1 r).2.1 (fun k => cvt K ((A.2.2.1 r).2.2 k)))) (6 * G + P) (nI x), wf_new w hx1 (hfil _ hall N1) hG hm hP e1, fun h0 h c => ?_, fun q0 k r' => ?_⟩
    · obtain ⟨h1, a1, c1⟩ := freshRow_A (kd := K) (ln := (A.2.2.1 r).2.1) c spX_0 hx hK
      have KK := it_inv (f := fX6_castRow_b60 (some 259) (nI G) (nI P) (some (5 + 4 * r)) (some (5 + 4 * x))) (Q := fun q k => q = .inl () ∧ CS h0 sp0 [x] k (setR A x (fillR (newR K (A.2.2.1 r).2.1) 0 (A.2.2.1 r).2.1 (fun k => cvt K ((A.2.2.1 r).2.2 k))))) (fun j s k => s = nI j ∧ CS h0 sp0 [x] k (setR A x (fillR (newR K (A.2.2.1 r).2.1) 0 j (fun k => cvt K ((A.2.2.1 r).2.2 k))))) (A.2.2.1 r).2.1 1000 0 (by omega) (by omega) ?_ ?_ (nI 0) h1 ⟨rfl, by rw [fillR_0]; exact c1⟩
      · obtain ⟨_, h2, b1, rfl, c2⟩ := KK
        rw [nI_0] at b1
        have rx := c2.row hx1 hlx
        rw [setR_at] at rx
        obtain ⟨d1, c3⟩ := place_A (q := P) c2 hG (by omega) hx1 hlx
        have e9 : (dnSI h2 3 (6 * G + P) (nI x)).2.1 (5 + 4 * x) 2 = nI (A.2.2.1 r).2.1 := by
          show dnUp h2.2.1 3 (6 * G + P) (nI x) (5 + 4 * x) 2 = _
          rw [dnUp_neA (by omega)]
          exact rx.2.1
        refine ⟨_, ?_, c3.sub subN⟩
        simp only [fX6_castRow, hg, hk, g_259_0 c.1, sv (st1 c.1), l1 h0 _ _ h c, Option.elim, rg_i (row1 c.1 hr), (c.row hr hl).2.1, a1, b1, Sum.elim_inl, g_259_0 c2.1, sv (st1 c2.1), d1, rg_i (row1 c3.1 hx1), e9, dnB_eval, c_isGrid, c_isKind, c_isSort, c_isPlain, r_isGrid, r_isKind, r_isSort, r_isPlain, r_in, dnP, Bool.false_eq_true, if_false, if_true]
      · rintro j s k hj ⟨rfl, ck⟩
        left
        obtain ⟨k2, b1, b2⟩ := cstep h0 k j ck hj (fun i hi => hall i (by omega)) (hall j hj)
        exact ⟨_, k2, b1, rfl, b2⟩
      · rintro s k ⟨rfl, ck⟩
        have rr := ck.row hr hlr
        rw [setR_ne hrx] at rr
        exact ⟨_, k, by simp only [fX6_castRow_b60, dnB_eval, rg_i (row1 ck.1 hr), rr.2.1, Int32.le_refl, if_true, dnP], rfl, ck⟩
    · have key : dnIt 1000 (fX13_castDeed_b43 (some 289) (nI G) (nI P) (nI K) (nI r)) (nI 0) k = some (.inl (), k) := by
        refine dnIt_run (f := fX13_castDeed_b43 (some 289) (nI G) (nI P) (nI K) (nI r)) (q := .inl ()) (hq := k) (A.2.2.1 r).2.1 1000 (fun i => (nI i, k)) (by omega) ?_ ?_
        · intro i hi
          have hc : ¬ (nI (A.2.2.1 r).2.1 ≤ nI i) := fun hc => by have := (nI_leI (a := (A.2.2.1 r).2.1) (b := i) (by omega) (by omega)).mp hc; omega
          simp only [fX13_castDeed_b43, dnB_eval, g_289_7 r'.1, len_A r' hr hl, hc, if_false, g_289_9 r'.1, at_r, srt_A r' hr hl (show i < 12 by omega), takesR hK (hrw.2.2 i (by omega)).1, hall i hi, if_true, dnP, nI_1]
        · simp only [fX13_castDeed_b43, dnB_eval, g_289_7 r'.1, len_A r' hr hl, Int32.le_refl, if_true, dnP]
      rw [nI_0] at key
      obtain ⟨k3, a1, r1⟩ := newRow_A (kd := K) (ln := (A.2.2.1 r).2.1) r' w.2.1 hx hK
      have KK := it_inv (f := fX13_castDeed_b107 (some 289) (nI G) (nI P) (nI r) (nI x)) (Q := fun _ k => RS q0 [x] k (setR A x (fillR (newR K (A.2.2.1 r).2.1) 0 (A.2.2.1 r).2.1 (fun k => cvt K ((A.2.2.1 r).2.2 k))))) (fun j s k => s = nI j ∧ RS q0 [x] k (setR A x (fillR (newR K (A.2.2.1 r).2.1) 0 j (fun k => cvt K ((A.2.2.1 r).2.2 k))))) (A.2.2.1 r).2.1 1000 0 (by omega) (by omega) ?_ ?_ (nI 0) k3 ⟨rfl, by rw [fillR_0]; exact r1⟩
      · obtain ⟨_, k4, b1, r2⟩ := KK
        rw [nI_0] at b1
        have lx := len_A r2 hx1 hlx
        rw [setR_at] at lx
        obtain ⟨d1, r3⟩ := holdsNow_A (v := nI x) (p := P) r2 hG (by omega) (fun n hn e => by
          rw [← (nI_eq (by omega) (by omega)).mp e]
          exact hlx)
        rw [rc_nI hx1] at d1 r3
        have lx3 := len_A r3 hx1 (.inl (List.mem_singleton.mpr rfl))
        have lx3 : dnAI (some 294) 100 (nI x) (dnSI k4 292 (6 * G + P) (nI x)) = some (nI ((setR A x (fillR (newR K (A.2.2.1 r).2.1) 0 (A.2.2.1 r).2.1 (fun k => cvt K ((A.2.2.1 r).2.2 k)))).2.2.1 x).2.1, dnSI k4 292 (6 * G + P) (nI x)) := lx3
        rw [setR_at] at lx3
        have lx3 : dnAI (some 294) 100 (nI x) (dnSI k4 292 (6 * G + P) (nI x)) = some (nI (A.2.2.1 r).2.1, dnSI k4 292 (6 * G + P) (nI x)) := lx3
        refine ⟨_, _, ?_, r3⟩
        simp only [fX13_castDeed, hg, hk, v_289 r'.1, (l2 q0 _ k r').1, (l2 q0 _ k r').2, key, Sum.elim_inl, g_289_7 r'.1, len_A r' hr hl, a1, b1, v_289 r2.1, d1, g_289_7 r3.1, lx3, dnB_eval, c_isGrid, c_isKind, c_isSort, c_isPlain, r_isGrid, r_isKind, r_isSort, r_isPlain, r_in, dnP, Bool.false_eq_true, if_false, if_true]
      · rintro j s k hj ⟨rfl, rk⟩
        left
        have hc : ¬ (nI (A.2.2.1 r).2.1 ≤ nI j) := fun hc => by have := (nI_leI (a := (A.2.2.1 r).2.1) (b := j) (by omega) (by omega)).mp hc; omega
        have lr := len_A rk hr hlr
        rw [setR_ne hrx] at lr
        obtain ⟨h2, b1, b2⟩ := copies_F (B := B) (i := j) rk hx1 hlx hr hlr hrx (by omega) (by omega) hK (hrw.2.2 _ (by omega)) (hall j hj) rfl
        rw [Nat.zero_add] at b1
        exact ⟨nI (j + 1), h2, by simp only [fX13_castDeed_b107, dnB_eval, g_289_7 rk.1, lr, hc, if_false, v_289 rk.1, b1, dnP, nI_1], rfl, b2⟩
      · rintro s k ⟨rfl, rk⟩
        have lr := len_A rk hr hlr
        rw [setR_ne hrx] at lr
        exact ⟨(), k, by simp only [fX13_castDeed_b107, dnB_eval, g_289_7 rk.1, lr, Int32.le_refl, if_true, dnP], rk⟩
  · have hno : tk K ((A.2.2.1 r).2.2 I).1 = false := by simpa using hI1
    have hlo : ∀ i, i < I → tk K ((A.2.2.1 r).2.2 i).1 = true := fun i hi => by simpa using hI2 i hi
    refine ⟨-7, setN A (A.2.2.2.1, nI I, A.2.2.2.2.2), w.note, fun h0 h c => ?_, fun q0 k r' => ?_⟩
    · obtain ⟨h1, a1, c1⟩ := freshRow_A (kd := K) (ln := (A.2.2.1 r).2.1) c spX_0 hx hK
      have KK := it_inv (f := fX6_castRow_b60 (some 259) (nI G) (nI P) (some (5 + 4 * r)) (some (5 + 4 * x))) (Q := fun q k => q = .inr (-7) ∧ CS h0 sp0 [] k (setN A (A.2.2.2.1, nI I, A.2.2.2.2.2))) (fun j s k => s = nI j ∧ CS h0 sp0 [x] k (setR A x (fillR (newR K (A.2.2.1 r).2.1) 0 j (fun k => cvt K ((A.2.2.1 r).2.2 k))))) I 1000 0 (by omega) (by omega) ?_ ?_ (nI 0) h1 ⟨rfl, by rw [fillR_0]; exact c1⟩
      · obtain ⟨_, h2, b1, rfl, c2⟩ := KK
        rw [nI_0] at b1
        refine ⟨h2, ?_, c2⟩
        simp only [fX6_castRow, hg, hk, g_259_0 c.1, sv (st1 c.1), l1 h0 _ _ h c, Option.elim, rg_i (row1 c.1 hr), (c.row hr hl).2.1, a1, b1, Sum.elim_inr, dnB_eval, c_isGrid, c_isKind, c_isSort, c_isPlain, r_isGrid, r_isKind, r_isSort, r_isPlain, r_in, dnP, Bool.false_eq_true, if_false, if_true]
      · rintro j s k hj ⟨rfl, ck⟩
        left
        obtain ⟨k2, b1, b2⟩ := cstep h0 k j ck (by omega) (fun i hi => hlo i (by omega)) (hlo j hj)
        exact ⟨_, k2, b1, rfl, b2⟩
      · rintro s k ⟨rfl, ck⟩
        have hc : ¬ (nI (A.2.2.1 r).2.1 ≤ nI I) := fun hc => by have := (nI_leI (a := (A.2.2.1 r).2.1) (b := I) (by omega) (by omega)).mp hc; omega
        have rr := ck.row hr hlr
        rw [setR_ne hrx] at rr
        obtain ⟨k2, b1, b2⟩ := accept_N (B := B) (i := I) (j := I) ck hx1 hlx hr hlr (by omega) (by omega) (by rw [setR_at]; exact hfil I hlo (by omega)) (by rw [setR_ne hrx]; exact hrw.2.2 I (by omega)) (by rw [setR_at, setR_ne hrx]; exact hno)
        have c3 := (b2.unset hx.2.1).first (nI I)
        refine ⟨_, _, ?_, rfl, c3⟩
        simp only [fX6_castRow_b60, dnB_eval, rg_i (row1 ck.1 hr), rr.2.1, hc, if_false, rv (row1 ck.1 hx1), b1, Bool.false_eq_true, g_259_1 b2.1, p_258_1 b2.1, dnP]
    · have r3 := r'.first (nI I)
      have key : dnIt 1000 (fX13_castDeed_b43 (some 289) (nI G) (nI P) (nI K) (nI r)) (nI 0) k = some (.inr (-7), dnSI k 289 2 (nI I)) := by
        refine dnIt_run (f := fX13_castDeed_b43 (some 289) (nI G) (nI P) (nI K) (nI r)) (q := .inr (-7)) (hq := dnSI k 289 2 (nI I)) I 1000 (fun i => (nI i, k)) (by omega) ?_ ?_
        · intro i hi
          have hc : ¬ (nI (A.2.2.1 r).2.1 ≤ nI i) := fun hc => by have := (nI_leI (a := (A.2.2.1 r).2.1) (b := i) (by omega) (by omega)).mp hc; omega
          simp only [fX13_castDeed_b43, dnB_eval, g_289_7 r'.1, len_A r' hr hl, hc, if_false, g_289_9 r'.1, at_r, srt_A r' hr hl (show i < 12 by omega), takesR hK (hrw.2.2 i (by omega)).1, hlo i hi, if_true, dnP, nI_1]
        · have hc : ¬ (nI (A.2.2.1 r).2.1 ≤ nI I) := fun hc => by have := (nI_leI (a := (A.2.2.1 r).2.1) (b := I) (by omega) (by omega)).mp hc; omega
          simp only [fX13_castDeed_b43, dnB_eval, g_289_7 r'.1, len_A r' hr hl, hc, if_false, g_289_9 r'.1, at_r, srt_A r' hr hl (show I < 12 by omega), takesR hK (hrw.2.2 I (by omega)).1, hno, Bool.false_eq_true, p_289_2 r'.1, dnP]
      rw [nI_0] at key
      refine ⟨_, _, ?_, r3⟩
      simp only [fX13_castDeed, hg, hk, v_289 r'.1, (l2 q0 _ k r').1, (l2 q0 _ k r').2, key, Sum.elim_inr, dnB_eval, c_isGrid, c_isKind, c_isSort, c_isPlain, r_isGrid, r_isKind, r_isSort, r_isPlain, r_in, dnP, Bool.false_eq_true, if_false, if_true]

theorem call_cast {B : Nat} (hB : 16 ≤ B) (g p kd : Int32) : Call B B (fX12_cast (some 0) g p kd) (fX13_cast (some 289) g p kd) :=
  callA (Nat.le_refl _) (fun h v h1 s1 s2 e => by simp only [fX12_cast, dnB_eval, g_0_4 s1, v_259 s1, e, v_0 s2, tally_c s2, dnP]) (fun h v h1 s1 s2 e => by simp only [fX13_cast, dnB_eval, v_289 s1, e, v_289 s2, said_r s2, dnP]) (step_cast hB g p kd)
