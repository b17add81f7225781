/-! ABS 18: roll -/
theorem rem_spec {n : Nat} (hn : 0 < n) (h12 : n ≤ 12) (x : Int32) : ∃ q r : Int, (x - x / nI n * nI n).toInt = r ∧ (n : Int) * q + r = x.toInt ∧ (0 ≤ x.toInt → 0 ≤ r ∧ r < n) ∧ (x.toInt < 0 → -(n : Int) < r ∧ r ≤ 0) := by
  have hx1 := Int32.le_toInt x
  have hx2 := Int32.toInt_lt x
  have e1 : (nI n).toInt = n := nI_toInt (by omega)
  have t := Int.mul_tdiv_add_tmod x.toInt n
  have b1 := Int.tmod_lt_of_pos x.toInt (b := n) (by omega)
  have b2 := Int.lt_tmod_of_pos x.toInt (b := n) (by omega)
  have b3 : 0 ≤ x.toInt → 0 ≤ x.toInt.tmod n := Int.tmod_nonneg _
  have b4 : x.toInt < 0 → x.toInt.tmod n ≤ 0 := fun hx => by
    have := Int.tmod_nonneg (n : Int) (a := -x.toInt) (by omega)
    rw [Int.neg_tmod] at this
    omega
  have hd : (x / nI n).toInt = (x.toInt.tdiv n).bmod (2 ^ 32) := by rw [Int32.toInt_div, e1]
  generalize x.toInt.tdiv n = q at t hd
  generalize x.toInt.tmod n = r at t b1 b2 b3 b4
  refine ⟨q, r, ?_, t, fun h => ⟨b3 h, b1⟩, fun h => ⟨b2, b4 h⟩⟩
  have hq : -2 ^ 31 ≤ q ∧ q < 2 ^ 31 := by
    rcases (by omega : n = 1 ∨ n = 2 ∨ n = 3 ∨ n = 4 ∨ n = 5 ∨ n = 6 ∨ n = 7 ∨ n = 8 ∨ n = 9 ∨ n = 10 ∨ n = 11 ∨ n = 12) with rfl | rfl | rfl | rfl | rfl | rfl | rfl | rfl | rfl | rfl | rfl | rfl <;> omega
  have hd2 : (x / nI n).toInt = q := by
    rw [hd]
    exact Int.bmod_eq_of_le (by omega) (by omega)
  have hm : (x / nI n * nI n).toInt = x.toInt - r := by
    rw [Int32.toInt_mul, hd2, e1, Int.mul_comm, show (n : Int) * q = x.toInt - r by omega]
    exact Int.bmod_eq_of_le (by omega) (by omega)
  rw [Int32.toInt_sub, hm, show x.toInt - (x.toInt - r) = r by omega]
  exact Int.bmod_eq_of_le (by omega) (by omega)
theorem xor_sign {n : Nat} (h12 : n ≤ 12) (x : Int32) : (0 ≤ x ^^^ nI n) ↔ 0 ≤ x.toInt := by
  have z : (0 : Int32).toInt = 0 := rfl
  rw [Int32.le_iff_toInt_le, z]
  have e1 : (x ^^^ nI n).toInt = (x.toBitVec ^^^ (nI n).toBitVec).toInt := by rw [← Int32.toBitVec_xor]; rfl
  have e2 : x.toInt = x.toBitVec.toInt := rfl
  have m := BitVec.msb_xor (x := x.toBitVec) (y := (nI n).toBitVec)
  have mn : (nI n).toBitVec.msb = false := by
    rw [BitVec.msb_eq_toInt]
    have : (nI n).toBitVec.toInt = n := nI_toInt (by omega)
    rw [this]
    simp
  rw [mn, Bool.xor_false, BitVec.msb_eq_toInt, BitVec.msb_eq_toInt] at m
  rw [e1, e2]
  have := decide_eq_decide.mp m
  omega
theorem roll_spec {n : Nat} (hn : 0 < n) (h12 : n ≤ 12) (x : Int32) : ∃ sh : Nat, sh < n ∧ (∀ h, fJ9_floorMod_7cf53 x (nI n) h = some (nI sh, h)) ∧ ∀ i, i < n → ((nI i + (x - x / nI n * nI n)) + nI n) - ((nI i + (x - x / nI n * nI n)) + nI n) / nI n * nI n = nI (if i + sh < n then i + sh else i + sh - n) := by
  obtain ⟨q, r, e1, e2, e3, e4⟩ := rem_spec hn h12 x
  have nz : ¬ nI n = 0 := fun hc => by
    have := (nI_eq (a := n) (b := 0) (by omega) (by decide)).mp hc
    omega
  have rlt : -(n : Int) < r ∧ r < n := by
    by_cases hx : 0 ≤ x.toInt
    · have := e3 hx; omega
    · have := e4 (by omega); omega
  have main : ∀ sh : Nat, sh < n → ((sh : Int) = r ∨ (sh : Int) = r + n) → ∀ i, i < n → ((nI i + (x - x / nI n * nI n)) + nI n) - ((nI i + (x - x / nI n * nI n)) + nI n) / nI n * nI n = nI (if i + sh < n then i + sh else i + sh - n) := fun sh hs hr i hi => by
    have y1 : ((nI i + (x - x / nI n * nI n)) + nI n).toInt = i + r + n := by
      rw [Int32.toInt_add, Int32.toInt_add, e1, nI_toInt (by omega), nI_toInt (by omega)]
      rw [show ((i : Int) + r).bmod (2 ^ 32) = i + r from Int.bmod_eq_of_le (by omega) (by omega)]
      exact Int.bmod_eq_of_le (by omega) (by omega)
    obtain ⟨q2, r2, f1, f2, f3, f4⟩ := rem_spec hn h12 ((nI i + (x - x / nI n * nI n)) + nI n)
    rw [y1] at f2 f3 f4
    have f3 := f3 (by omega)
    refine Int32.toInt_inj.mp ?_
    rw [f1, nI_toInt (by split <;> omega)]
    clear f1 f4 y1 e1 e2 e3 e4
    rcases (by omega : n = 1 ∨ n = 2 ∨ n = 3 ∨ n = 4 ∨ n = 5 ∨ n = 6 ∨ n = 7 ∨ n = 8 ∨ n = 9 ∨ n = 10 ∨ n = 11 ∨ n = 12) with rfl | rfl | rfl | rfl | rfl | rfl | rfl | rfl | rfl | rfl | rfl | rfl <;> (split <;> omega)
  unfold fJ9_floorMod_7cf53
  by_cases hx : 0 ≤ x.toInt
  · obtain ⟨g1, g2⟩ := e3 hx
    refine ⟨r.toNat, by omega, fun h => ?_, main _ (by omega) (.inl (by omega))⟩
    have e : x - x / nI n * nI n = nI r.toNat := Int32.toInt_inj.mp (by rw [e1, nI_toInt (by omega)]; omega)
    simp only [dnB_eval, dnNz, nz, if_false, (xor_sign h12 x).mpr hx, if_true, e, dnP]
  · obtain ⟨g1, g2⟩ := e4 (by omega)
    have hxs : ¬ 0 ≤ x ^^^ nI n := fun hc => hx ((xor_sign h12 x).mp hc)
    by_cases r0 : r = 0
    · have e : x - x / nI n * nI n = 0 := Int32.toInt_inj.mp (by rw [e1, r0]; rfl)
      refine ⟨0, by omega, fun h => ?_, main _ (by omega) (.inl (by omega))⟩
      simp only [dnB_eval, dnNz, nz, if_false, hxs, e, if_true, dnP]
      rfl
    · have e : ¬ x - x / nI n * nI n = 0 := fun hc => by
        rw [hc] at e1
        exact r0 e1.symm
      have e5 : x - x / nI n * nI n + nI n = nI (r + n).toNat := Int32.toInt_inj.mp (by
        rw [Int32.toInt_add, e1, nI_toInt (by omega), nI_toInt (by omega), show ((r : Int) + n).bmod (2 ^ 32) = r + n from Int.bmod_eq_of_le (by omega) (by omega)]
        omega)
      refine ⟨(r + n).toNat, by omega, fun h => ?_, main _ (by omega) (.inr (by omega))⟩
      simp only [dnB_eval, dnNz, nz, if_false, hxs, e, e5, dnP]
def rollT (Q : Rw) (sh j : Nat) : Rw := (Q.1, Q.2.1, fun c => if c < Q.2.1 ∧ (if sh ≤ c then c - sh else c + Q.2.1 - sh) < j then Q.2.2 (if sh ≤ c then c - sh else c + Q.2.1 - sh) else Q.2.2 c)
theorem rollT_0 {Q : Rw} {sh : Nat} : rollT Q sh 0 = Q := by
  unfold rollT
  have : (fun c => if c < Q.2.1 ∧ (if sh ≤ c then c - sh else c + Q.2.1 - sh) < 0 then Q.2.2 (if sh ≤ c then c - sh else c + Q.2.1 - sh) else Q.2.2 c) = Q.2.2 := by
    funext c
    rw [if_neg (by omega)]
  rw [this]
theorem rollT_s {Q : Rw} {sh j : Nat} (hs : sh < Q.2.1) (hj : j < Q.2.1) : rollT Q sh (j + 1) = setC (rollT Q sh j) (if j + sh < Q.2.1 then j + sh else j + sh - Q.2.1) (Q.2.2 j) := by
  unfold rollT setC
  have : (fun c => if c < Q.2.1 ∧ (if sh ≤ c then c - sh else c + Q.2.1 - sh) < j + 1 then Q.2.2 (if sh ≤ c then c - sh else c + Q.2.1 - sh) else Q.2.2 c) = (fun c => if c = (if j + sh < Q.2.1 then j + sh else j + sh - Q.2.1) then Q.2.2 j else if c < Q.2.1 ∧ (if sh ≤ c then c - sh else c + Q.2.1 - sh) < j then Q.2.2 (if sh ≤ c then c - sh else c + Q.2.1 - sh) else Q.2.2 c) := by
    funext c
    by_cases q : c = (if j + sh < Q.2.1 then j + sh else j + sh - Q.2.1)
    · rw [if_pos q]
      have e : (if sh ≤ c then c - sh else c + Q.2.1 - sh) = j := by
        split at q <;> split <;> omega
      have lt : c < Q.2.1 := by split at q <;> omega
      rw [e, if_pos ⟨lt, by omega⟩]
    · rw [if_neg q]
      by_cases q2 : c < Q.2.1 ∧ (if sh ≤ c then c - sh else c + Q.2.1 - sh) < j
      · rw [if_pos q2, if_pos ⟨q2.1, by omega⟩]
      · rw [if_neg q2, if_neg]
        intro hc
        refine q2 ⟨hc.1, ?_⟩
        have h1 := hc.1
        have h2 := hc.2
        by_cases q3 : (if sh ≤ c then c - sh else c + Q.2.1 - sh) = j
        · exfalso
          apply q
          split at q3 <;> split <;> omega
        · omega
  rw [this]
theorem roll_fill {Q R : Rw} {sh : Nat} {f1 f2 : Nat → Cel} (hs : sh < Q.2.1) (hR : R = Q) (h1 : ∀ k, k < Q.2.1 - sh → f1 k = Q.2.2 k) (h2 : ∀ k, k < sh → f2 k = Q.2.2 (Q.2.1 - sh + k)) : fillR (fillR R sh (Q.2.1 - sh) f1) 0 sh f2 = rollT Q sh Q.2.1 := by
  subst hR
  unfold fillR rollT
  have : (fun j => if 0 ≤ j ∧ j < 0 + sh then f2 (j - 0) else if sh ≤ j ∧ j < sh + (R.2.1 - sh) then f1 (j - sh) else R.2.2 j) = (fun c => if c < R.2.1 ∧ (if sh ≤ c then c - sh else c + R.2.1 - sh) < R.2.1 then R.2.2 (if sh ≤ c then c - sh else c + R.2.1 - sh) else R.2.2 c) := by
    funext c
    by_cases q1 : c < sh
    · rw [if_pos (by omega), if_neg (show ¬ sh ≤ c by omega), if_pos (by omega), h2 (c - 0) (by omega), show R.2.1 - sh + (c - 0) = c + R.2.1 - sh by omega]
    · rw [if_neg (by omega), if_pos (show sh ≤ c by omega)]
      by_cases q2 : c < R.2.1
      · rw [if_pos (by omega), if_pos (by omega), h1 (c - sh) (by omega)]
      · rw [if_neg (by omega), if_neg (by omega)]
  dsimp only
  rw [this]
theorem step_roll {B : Nat} (g p x : Int32) : Step B B (fX6_rotate (some 259) g p x) (fX13_rollDeed (some 289) g p x) := by
  intro A w
  cases hg : inB g 0 3
  · rcases lookR w g p with ⟨f, f0, f1, f2, f3⟩ | ⟨G, P, m, r, hG, hP, hm, hr, rfl, rfl, e1, e2, hb, _⟩
    · rw [f1 hg] at f2
      exact step_ro (-1) w (fun h0 h c => by simp only [fX6_rotate, hg, g_259_0 c.1, sv (st1 c.1), (f2 h0 _ _ h c).1, (f2 h0 _ _ h c).2, Option.elim, dnB_eval, c_isGrid, c_isKind, c_isSort, c_isPlain, r_isGrid, r_isKind, r_isSort, r_isPlain, r_in, dnP, Bool.false_eq_true, if_false, if_true]) (fun q0 q r => by simp only [fX13_rollDeed, hg, dnB_eval, c_isGrid, c_isKind, c_isSort, c_isPlain, r_isGrid, r_isKind, r_isSort, r_isPlain, r_in, dnP, Bool.false_eq_true, if_false, if_true])
    · rw [hg] at hb
      cases hb
  rcases lookR w g p with ⟨f, f0, -, f2, f3⟩ | ⟨G, P, m, r, hG, hP, hm, hr, rfl, rfl, e1, e2, -, hl, -, hrw, l1, l2⟩
  · obtain ⟨n1, n2⟩ := neg_fault f0
    exact step_ro f w (fun h0 h c => by simp only [fX6_rotate, g_259_0 c.1, sv (st1 c.1), (f2 h0 _ _ h c).1, (f2 h0 _ _ h c).2, Option.elim, dnB_eval, c_isGrid, c_isKind, c_isSort, c_isPlain, r_isGrid, r_isKind, r_isSort, r_isPlain, r_in, dnP, Bool.false_eq_true, if_false, if_true]) (fun q0 q r => by simp only [fX13_rollDeed, hg, v_289 r.1, f3 hg q0 _ q r, n1, dnB_eval, c_isGrid, c_isKind, c_isSort, c_isPlain, r_isGrid, r_isKind, r_isSort, r_isPlain, r_in, dnP, Bool.false_eq_true, if_false, if_true])
  have N1 := hrw.2.1
  by_cases hz : (A.2.2.1 r).2.1 = 0
  · refine ⟨0, A, w, fun h0 h c => ⟨h, ?_, c⟩, fun q0 k r' => ?_⟩
    · have e := (c.row hr hl).2.1
      rw [hz] at e
      have e : h.2.1 (5 + 4 * r) 2 = 0 := e
      simp only [fX6_rotate, g_259_0 c.1, sv (st1 c.1), l1 h0 _ _ h c, Option.elim, rg_i (row1 c.1 hr), e, not_true_eq_false, dnB_eval, c_isGrid, c_isKind, c_isSort, c_isPlain, r_isGrid, r_isKind, r_isSort, r_isPlain, r_in, dnP, Bool.false_eq_true, if_false, if_true]
    · obtain ⟨k1, a1, r1, hb⟩ := laysBy_A r' hr hl
      have e := len_A r' hr hl
      rw [hz] at e
      have e : dnAI (some 294) 100 (nI r) k = some (0, k) := e
      have it : dnIt 1000 (fX13_rollDeed_b51 (some 289) x (nI r) 0) 0 k1 = some ((), k1) := by
        have := dnIt_run (f := fX13_rollDeed_b51 (some 289) x (nI r) 0) (q := ()) (hq := k1) 0 1000 (fun _ => ((0 : Int32), k1)) (by decide) (fun i hi => by omega) (by simp only [fX13_rollDeed_b51, show (0 : Int32) ≤ 0 by decide, if_true, dnP])
        exact this
      refine ⟨k1, _, ?_, r1⟩
      simp only [fX13_rollDeed, hg, v_289 r'.1, (l2 q0 _ k r').1, (l2 q0 _ k r').2, g_289_7 r'.1, e, a1, it, dnB_eval, c_isGrid, c_isKind, c_isSort, c_isPlain, r_isGrid, r_isKind, r_isSort, r_isPlain, r_in, dnP, Bool.false_eq_true, if_false, if_true]
  · obtain ⟨sh, hsh, sp1, sp2⟩ := roll_spec (show 0 < (A.2.2.1 r).2.1 by omega) N1 x
    have nz : ¬ nI (A.2.2.1 r).2.1 = 0 := fun hc => hz ((nI_eq (a := (A.2.2.1 r).2.1) (b := 0) (by omega) (by decide)).mp hc)
    have okT : rwOk B (rollT (A.2.2.1 r) sh (A.2.2.1 r).2.1) := ⟨hrw.1, hrw.2.1, fun c hc => by
      show celOk B (A.2.2.1 r).1 (if c < (A.2.2.1 r).2.1 ∧ (if sh ≤ c then c - sh else c + (A.2.2.1 r).2.1 - sh) < (A.2.2.1 r).2.1 then (A.2.2.1 r).2.2 (if sh ≤ c then c - sh else c + (A.2.2.1 r).2.1 - sh) else (A.2.2.1 r).2.2 c)
      by_cases q : c < (A.2.2.1 r).2.1 ∧ (if sh ≤ c then c - sh else c + (A.2.2.1 r).2.1 - sh) < (A.2.2.1 r).2.1
      · rw [if_pos q]
        exact hrw.2.2 _ (by omega)
      · rw [if_neg q]
        exact hrw.2.2 c hc⟩
    refine ⟨nI (A.2.2.1 r).2.1, setR A r (rollT (A.2.2.1 r) sh (A.2.2.1 r).2.1), w.setR (fun m hm => .inr hm) okT, fun h0 h c => ?_, fun q0 k r' => ?_⟩
    · obtain ⟨h1, a1, a2, a3⟩ := copyFrom_A (rw264 c.1) (row1 c.1 hr) (c.row hr hl) (by omega)
      have c1 := c.hand (by decide) (by decide) a2
      obtain ⟨h2, b1, b2, b3⟩ := append_H (B := B) (a := sh) (i := 0) (n := (A.2.2.1 r).2.1 - sh) (row1 c1.1 hr) (rw264 c1.1) (c1.row hr hl) a3 (by omega) hrw (by omega) (by omega) (fun k hk => by
        rw [Nat.zero_add]
        exact ⟨(hrw.2.2 k (by omega)).1, (hrw.2.2 k (by omega)).2.1, (hrw.2.2 k (by omega)).2.2.2⟩)
      rw [nI_0] at b1
      have c2 := c1.setRow (Y := []) hr (fun m hm => .inr hm) b2 b3
      have rr2 := c2.row hr hl
      rw [setR_at] at rr2
      have ok2 : rwOk B (fillR (A.2.2.1 r) sh ((A.2.2.1 r).2.1 - sh) (fun k => cvt (A.2.2.1 r).1 ((A.2.2.1 r).2.2 (0 + k)))) := rwOk_fill hrw (fun k hk => by
        rw [Nat.zero_add, cvt_self (hrw.2.2 k (by omega))]
        exact hrw.2.2 k (by omega))
      obtain ⟨h3, d1, d2, d3⟩ := append_H (B := B) (a := 0) (i := (A.2.2.1 r).2.1 - sh) (n := sh) (row1 c2.1 hr) (rw264 c2.1) rr2 (b2.row (by omega) a3) (by omega) ok2 (by omega) (by omega) (fun k hk => ⟨(hrw.2.2 _ (by omega)).1, (hrw.2.2 _ (by omega)).2.1, (hrw.2.2 _ (by omega)).2.2.2⟩)
      rw [nI_0] at d1
      have c3 := c2.setRow (Y := []) hr (fun m hm => .inr hm) d2 d3
      rw [setR_setR] at c3
      have c3 : CS h0 sp0 [] h3 (setR A r (fillR (fillR (A.2.2.1 r) sh ((A.2.2.1 r).2.1 - sh) (fun k => cvt (A.2.2.1 r).1 ((A.2.2.1 r).2.2 (0 + k)))) 0 sh (fun k => cvt (A.2.2.1 r).1 ((A.2.2.1 r).2.2 ((A.2.2.1 r).2.1 - sh + k))))) := c3
      rw [roll_fill (Q := A.2.2.1 r) (f1 := fun k => cvt (A.2.2.1 r).1 ((A.2.2.1 r).2.2 (0 + k))) (f2 := fun k => cvt (A.2.2.1 r).1 ((A.2.2.1 r).2.2 ((A.2.2.1 r).2.1 - sh + k))) hsh rfl (fun k hk => by rw [Nat.zero_add]; exact cvt_self (hrw.2.2 k (by omega))) (fun k hk => cvt_self (hrw.2.2 _ (by omega)))] at c3
      have rr3 := c3.row hr hl
      rw [setR_at] at rr3
      have lr : h.2.1 (5 + 4 * r) 2 = nI (A.2.2.1 r).2.1 := (c.row hr hl).2.1
      have lr1 : h1.2.1 (5 + 4 * r) 2 = nI (A.2.2.1 r).2.1 := (c1.row hr hl).2.1
      have lr2 : h2.2.1 (5 + 4 * r) 2 = nI (A.2.2.1 r).2.1 := rr2.2.1
      have lr3 : h3.2.1 (5 + 4 * r) 2 = nI (A.2.2.1 r).2.1 := rr3.2.1
      refine ⟨h3, ?_, c3⟩
      simp only [fX6_rotate, g_259_0 c.1, sv (st1 c.1), l1 h0 _ _ h c, Option.elim, rg_i (row1 c.1 hr), lr, nz, not_false_eq_true, sp1, g_259_3 c.1, rv (rw264 c.1), a1, g_259_3 c1.1, rg_i (row1 c1.1 hr), lr1, nI_sub (show sh ≤ (A.2.2.1 r).2.1 by omega), b1, g_259_3 c2.1, rg_i (row1 c2.1 hr), lr2, d1, rg_i (row1 c3.1 hr), lr3, dnB_eval, c_isGrid, c_isKind, c_isSort, c_isPlain, r_isGrid, r_isKind, r_isSort, r_isPlain, r_in, dnP, Bool.false_eq_true, if_false, if_true]
    · obtain ⟨k1, a1, r1, hb⟩ := laysBy_A r' hr hl
      have KK := it_inv (f := fX13_rollDeed_b51 (some 289) x (nI r) (nI (A.2.2.1 r).2.1)) (Q := fun _ k => RS q0 [] k (setR A r (rollT (A.2.2.1 r) sh (A.2.2.1 r).2.1))) (fun j s k => s = nI j ∧ RS q0 [] k (setR A r (rollT (A.2.2.1 r) sh j)) ∧ ByIs k (A.2.2.1 r)) (A.2.2.1 r).2.1 1000 0 (by omega) (by omega) ?_ ?_ (nI 0) k1 ⟨rfl, by rw [rollT_0, setR_self]; exact r1, hb⟩
      · obtain ⟨_, k2, b1, r2⟩ := KK
        rw [nI_0] at b1
        refine ⟨k2, _, ?_, r2⟩
        simp only [fX13_rollDeed, hg, v_289 r'.1, (l2 q0 _ k r').1, (l2 q0 _ k r').2, g_289_7 r'.1, len_A r' hr hl, a1, b1, dnB_eval, c_isGrid, c_isKind, c_isSort, c_isPlain, r_isGrid, r_isKind, r_isSort, r_isPlain, r_in, dnP, Bool.false_eq_true, if_false, if_true]
      · rintro j s k hj ⟨rfl, rk, hk⟩
        left
        have hc : ¬ (nI (A.2.2.1 r).2.1 ≤ nI j) := fun hc => by have := (nI_leI (a := (A.2.2.1 r).2.1) (b := j) (by omega) (by omega)).mp hc; omega
        obtain ⟨k2, b1, r2, hk2⟩ := fromBy_A (i := if j + sh < (A.2.2.1 r).2.1 then j + sh else j + sh - (A.2.2.1 r).2.1) (k := j) rk hk (by omega) hr hl (by split <;> omega)
        rw [setR_at, setR_setR, ← rollT_s hsh hj] at r2
        refine ⟨nI (j + 1), k2, ?_, rfl, r2, hk2⟩
        simp only [fX13_rollDeed_b51, dnB_eval, hc, if_false, dnNz, nz, sp2 j hj, v_289 rk.1, b1, dnP, nI_1]
      · rintro s k ⟨rfl, rk, hk⟩
        exact ⟨(), k, by simp only [fX13_rollDeed_b51, Int32.le_refl, if_true, dnP], rk⟩

theorem call_roll {B : Nat} (g p x : Int32) : Call B B (fX12_roll (some 0) g p x) (fX13_roll (some 289) g p x) :=
  callA (Nat.le_refl _) (fun h v h1 s1 s2 e => by simp only [fX12_roll, dnB_eval, g_0_4 s1, v_259 s1, e, v_0 s2, tally_c s2, dnP]) (fun h v h1 s1 s2 e => by simp only [fX13_roll, dnB_eval, v_289 s1, e, v_289 s2, said_r s2, dnP]) (step_roll g p x)
