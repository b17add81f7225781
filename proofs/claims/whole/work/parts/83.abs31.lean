/-! ABS 31: kinds, digest -/
theorem call_pure {α : Type} {B : Nat} {F G : dnM α} (k : ∀ A, Wf B [] A → ∃ v, (∀ h0 h, CS h0 sp0 [] h A → F h = some (v, h)) ∧ ∀ q0 q, RS q0 [] q A → ∃ q1, G q = some (v, q1) ∧ RS q0 [] q1 A) : Call B B F G := by
  intro h a
  obtain ⟨A, w, c, r⟩ := openA a
  obtain ⟨v, k1, k2⟩ := k A w
  have cid : ∀ (k : dnH) (x : Nat), cnt k x 0 = k := fun k x => if_neg (by decide)
  have r0 := r h 0 Eqc.rf
  rw [cid] at r0
  obtain ⟨q1, e2, r2⟩ := k2 h h r0
  have r3 : RS (cnt h 288 0) [] q1 A := by rw [cid]; exact r2
  have fin := closeA (v := 0) a (Nat.le_refl _) w c r3
  rw [cid, fl_id (fun x hx => r2.2.2.1 x hx)] at fin
  exact ⟨v, h, q1, k1 h h c, e2, fin⟩
/-- where a row is held first; 24: nowhere -/
def fh (A : Ab) (r : Nat) : Nat := ((List.range 24).find? (fun k => A.2.1 k == nI r)).getD 24
theorem fh_live {A : Ab} {r : Nat} (h : live [] A r) : fh A r < 24 ∧ A.2.1 (fh A r) = nI r ∧ ∀ j, j < fh A r → ¬ A.2.1 j = nI r := by
  rcases h with h | ⟨k, hk, e⟩
  · cases h
  · obtain ⟨m, m1, m2, m3⟩ := least_of (P := fun k => A.2.1 k = nI r) k e
    have : (List.range 24).find? (fun k => A.2.1 k == nI r) = some m := by
      rw [List.find?_range_eq_some]
      exact ⟨by simpa using m2, List.mem_range.mpr (by omega), fun j hj => by simpa using m3 j hj⟩
    unfold fh
    rw [this]
    exact ⟨by show m < 24; omega, m2, m3⟩
theorem fh_no {A : Ab} {r : Nat} (h : ¬ live [] A r) : fh A r = 24 := by
  have : (List.range 24).find? (fun k => A.2.1 k == nI r) = none := by
    rw [List.find?_eq_none]
    intro x hx hc
    exact h (.inr ⟨x, List.mem_range.mp hx, by simpa using hc⟩)
  unfold fh
  rw [this]
  rfl
theorem fh_lt {A : Ab} {r : Nat} : fh A r < 24 ↔ live [] A r := ⟨fun h => Classical.byContradiction (fun hc => by rw [fh_no hc] at h; omega), fun h => (fh_live h).1⟩
theorem holder_c {h0 h : dnH} {A : Ab} {r : Nat} (c : CS h0 sp0 [] h A) (hr : r < 31) : fX9_firstHolder (some 1) (nI r) h = some (if fh A r < 24 then nI (fh A r) else -9, h) := by
  by_cases q : live [] A r
  · obtain ⟨f1, f2, f3⟩ := fh_live q
    rw [if_pos f1]
    exact holder_at c.1 (by omega) (by rw [c.hd f1]; exact f2) (fun j hj => by rw [c.hd (by omega)]; exact f3 j hj)
  · rw [fh_no q, if_neg (by decide)]
    refine holder_no c.1 (fun k hk e => q ((c.live_iff spX_0 hr).mpr ⟨k, hk, e⟩))
theorem holder_r {h0 h : dnH} {A : Ab} {r : Nat} (c : RS h0 [] h A) (ho : ∀ k, k < 24 → hOk (A.2.1 k)) (hr : r < 32) : fX13_holder (some 289) (nI r) h = some (if fh A r < 24 then nI (fh A r) else -9, h) := by
  have hrc : ∀ k, k < 24 → (h.2.1 292 k = nI r ↔ A.2.1 k = nI r) := fun k hk => by
    rw [c.hd hk]
    rcases ho k hk with e | e | e | ⟨n, hn, e⟩
    · rw [e]
      exact ⟨fun hc => absurd (show nI r < 0 by rw [← hc]; decide) (nI_pos (by omega)), fun hc => absurd (show nI r < 0 by rw [← hc]; decide) (nI_pos (by omega))⟩
    · rw [e]
      exact ⟨fun hc => absurd (show nI r < 0 by rw [← hc]; decide) (nI_pos (by omega)), fun hc => absurd (show nI r < 0 by rw [← hc]; decide) (nI_pos (by omega))⟩
    · rw [e]
      exact ⟨fun hc => absurd (show nI r < 0 by rw [← hc]; decide) (nI_pos (by omega)), fun hc => absurd (show nI r < 0 by rw [← hc]; decide) (nI_pos (by omega))⟩
    · rw [e, rc_nI hn]
  have step : ∀ k, k < 24 → fX13_holder_b2 (some 289) (nI r) (nI k) h = if A.2.1 k = nI r then some (.inr (.inr (nI k)), h) else some (.inl (nI (k + 1)), h) := fun k hk => by
    have hc : ¬ ((24 : Int32) ≤ nI k) := fun hc => by have := (nI_leI (a := 24) (b := k) (by omega) (by omega)).mp hc; omega
    simp only [fX13_holder_b2, hc, if_false, dnB_eval, g_289_5 c.1, a_292 c.1, dnIn_nI hk (by decide), nI_clamp (show k < 2 ^ 31 by omega), if_true, hrc k hk]
    by_cases q : A.2.1 k = nI r
    · rw [if_neg (not_not_intro q), if_pos q]
      rfl
    · rw [if_pos q, if_neg q]
      simp only [dnP, nI_1]
  have fin : fX13_holder_b2 (some 289) (nI r) (nI 24) h = some (.inr (.inl ()), h) := by
    simp only [fX13_holder_b2, show (24 : Int32) ≤ nI 24 by decide, if_true, dnP]
  by_cases q : live [] A r
  · obtain ⟨f1, f2, f3⟩ := fh_live q
    rw [if_pos f1]
    have := dnIt_run (f := fX13_holder_b2 (some 289) (nI r)) (q := .inr (nI (fh A r))) (hq := h) (fh A r) 1000 (fun i => (nI i, h)) (by omega) (fun i hi => by rw [step i (by omega), if_neg (f3 i hi)]) (by rw [step _ f1, if_pos f2])
    have this : dnIt 1000 (fX13_holder_b2 (some 289) (nI r)) 0 h = some (.inr (nI (fh A r)), h) := this
    simp only [fX13_holder, dnB_eval, this, Sum.elim_inr, dnP]
  · rw [fh_no q, if_neg (by decide)]
    have := dnIt_run (f := fX13_holder_b2 (some 289) (nI r)) (q := .inl ()) (hq := h) 24 1000 (fun i => (nI i, h)) (by decide) (fun i hi => by rw [step i hi, if_neg (fun e => q (.inr ⟨i, hi, e⟩))]) fin
    have this : dnIt 1000 (fX13_holder_b2 (some 289) (nI r)) 0 h = some (.inl (), h) := this
    simp only [fX13_holder, dnB_eval, this, Sum.elim_inl, dnP]
theorem fh_9 {A : Ab} {r : Nat} : ((if fh A r < 24 then nI (fh A r) else -9 : Int32) = -9) ↔ ¬ fh A r < 24 := by
  by_cases q : fh A r < 24
  · rw [if_pos q]
    exact ⟨fun e => absurd (show nI (fh A r) < 0 by rw [e]; decide) (nI_pos (by omega)), fun h => absurd q h⟩
  · rw [if_neg q]
    exact ⟨fun _ => q, fun _ => rfl⟩
theorem call_kinds (B : Nat) (p : Int32) : Call B B (fX12_kinds (some 0) p) (fX13_kinds (some 289) p) := by
  refine call_pure (fun A w => ?_)
  cases hk : inB p 0 11
  · exact ⟨-1, fun h0 h c => by simp only [fX12_kinds, hk, dnB_eval, c_isGrid, c_isKind, c_isSort, c_isPlain, r_isGrid, r_isKind, r_isSort, r_isPlain, r_in, dnP, Bool.false_eq_true, if_false, if_true], fun q0 q r => ⟨q, by simp only [fX13_kinds, hk, dnB_eval, c_isGrid, c_isKind, c_isSort, c_isPlain, r_isGrid, r_isKind, r_isSort, r_isPlain, r_in, dnP, Bool.false_eq_true, if_false, if_true], r⟩⟩
  obtain ⟨K, hK, rfl⟩ := inB_of (n := 11) (by decide) hk
  let F : Nat → Bool := fun n => decide (fh A n < 24) && decide ((A.2.2.1 n).1 = K)
  have keq : ∀ n, n < 31 → live [] A n → ((nI (A.2.2.1 n).1 = nI K) ↔ (A.2.2.1 n).1 = K) := fun n hn hl => nI_eq (by have := (w.2.2.2 n hn hl).1; omega) (by omega)
  have n31 : fh A 31 = 24 := fh_no (fun hl => by
    rcases hl with hl | ⟨k, hk, e⟩
    · cases hl
    · rcases w.2.1 k hk with e2 | e2 | e2 | ⟨n, hn, e2⟩
      · rw [e2] at e; exact absurd e (by decide)
      · rw [e2] at e; exact absurd e (by decide)
      · rw [e2] at e; exact absurd e (by decide)
      · rw [e2] at e
        have := (nI_eq (a := n) (b := 31) (by omega) (by decide)).mp e
        omega)
  refine ⟨aI F 31, fun h0 h c => ?_, fun q0 k r => ⟨k, ?_, r⟩⟩
  · have key : dnIt 1000 (fX9_rowsOfKind_b4 (some 1) (nI K)) (0, 0) h = some (aI F 31, h) := by
      refine dnIt_run (f := fX9_rowsOfKind_b4 (some 1) (nI K)) (q := aI F 31) (hq := h) 31 1000 (fun i => ((aI F i, nI i), h)) (by decide) ?_ ?_
      · intro n hn
        have hc : ¬ ((31 : Int32) ≤ nI n) := fun hc => by have := (nI_leI (a := 31) (b := n) (by omega) (by omega)).mp hc; omega
        show _ = some (Sum.inl (aI F n + dnZ (decide (fh A n < 24) && decide ((A.2.2.1 n).1 = K)), nI (n + 1)), h)
        simp only [fX9_rowsOfKind_b4, fX9_rowsOfKind_j38, fX9_rowsOfKind_j39, hc, if_false, dnB_eval, sg_2 (st1 c.1), sa_3 (st1 c.1) hn, show 1 + 4 + 4 * n = 5 + 4 * n by omega, rg_i (row1 c.1 hn)]
        by_cases q : fh A n < 24
        · have hl := fh_lt.mp q
          simp only [(c.row hn hl).1, keq n hn hl, q, decide_true, Bool.true_and]
          by_cases q2 : (A.2.2.1 n).1 = K
          · have h9 : ¬ nI (fh A n) = (-9 : Int32) := fun e => absurd (show nI (fh A n) < 0 by rw [e]; decide) (nI_pos (by omega))
            simp only [q2, not_true_eq_false, if_false, dnB_eval, sv (st1 c.1), holder_c c hn, q, if_true, h9, decide_true, dnP, nI_1]
          · simp only [q2, not_false_eq_true, if_true, decide_false, dnP, nI_1]
        · simp only [q, decide_false, Bool.false_and]
          by_cases q2 : h.2.1 (5 + 4 * n) 1 = nI K
          · simp only [q2, not_true_eq_false, if_false, dnB_eval, sv (st1 c.1), holder_c c hn, q, if_true, dnP, nI_1]
          · simp only [q2, not_false_eq_true, if_true, dnP, nI_1]
      · simp only [fX9_rowsOfKind_b4, show (31 : Int32) ≤ nI 31 by decide, if_true, dnP]
    simp only [fX12_kinds, fX9_rowsOfKind, hk, g_0_0 c.1, sv (st1 c.1), key, dnB_eval, c_isGrid, c_isKind, c_isSort, c_isPlain, r_isGrid, r_isKind, r_isSort, r_isPlain, r_in, dnP, Bool.false_eq_true, if_false, if_true]
  · have key : dnIt 1000 (fX13_kinds_b13 (some 289) (nI K)) (0, 0) k = some (aI F 32, k) := by
      refine dnIt_run (f := fX13_kinds_b13 (some 289) (nI K)) (q := aI F 32) (hq := k) 32 1000 (fun i => ((aI F i, nI i), k)) (by decide) ?_ ?_
      · intro n hn
        have hc : ¬ ((32 : Int32) ≤ nI n) := fun hc => by have := (nI_leI (a := 32) (b := n) (by omega) (by omega)).mp hc; omega
        show _ = some (Sum.inl (aI F n + dnZ (decide (fh A n < 24) && decide ((A.2.2.1 n).1 = K)), nI (n + 1)), k)
        simp only [fX13_kinds_b13, fX13_kinds_j44, fX13_kinds_j45, hc, if_false, dnB_eval, v_289 r.1, holder_r r w.2.1 hn, fh_9]
        by_cases q : fh A n < 24
        · have hl := fh_lt.mp q
          have hn31 : n < 31 := by
            refine Classical.byContradiction (fun hx => ?_)
            rw [show n = 31 by omega, n31] at q
            omega
          simp only [q, not_true_eq_false, if_false, dnB_eval, g_289_6 r.1, kind_A r hn31 hl, keq n hn31 hl, decide_true, Bool.true_and]
          by_cases q2 : (A.2.2.1 n).1 = K
          · simp only [q2, not_true_eq_false, if_false, decide_true, dnP, nI_1]
          · simp only [q2, not_false_eq_true, if_true, decide_false, dnP, nI_1]
        · simp only [q, not_false_eq_true, if_true, decide_false, Bool.false_and, dnP, nI_1]
      · simp only [fX13_kinds_b13, show (32 : Int32) ≤ nI 32 by decide, if_true, dnP]
    have e32 : aI F 32 = aI F 31 := by
      show aI F 31 + dnZ (decide (fh A 31 < 24) && _) = _
      rw [n31]
      exact Int32.add_zero _
    rw [e32] at key
    simp only [fX13_kinds, hk, key, dnB_eval, c_isGrid, c_isKind, c_isSort, c_isPlain, r_isGrid, r_isKind, r_isSort, r_isPlain, r_in, dnP, Bool.false_eq_true, if_false, if_true]
def dgC (R : Rw) (x : Int64) : Nat → Int64
  | 0 => x
  | i + 1 => (31 * ((31 * dgC R x i) + (nI (R.2.2 i).1).toInt64)) + codeOf (R.2.2 i)
def dgW (A : Ab) (x : Int64) (r : Nat) : Int64 := dgC (A.2.2.1 r) ((31 * ((31 * x) + ((10 * (nI (fh A r) / 6)) + (nI (fh A r) - nI (fh A r) / 6 * 6)).toInt64)) + (nI (A.2.2.1 r).2.1).toInt64) (A.2.2.1 r).2.1
theorem h6 {f : Nat} (hf : f < 24) : ((10 * (nI f / 6)) + (nI f - nI f / 6 * 6)).toInt64 = (10 * (nI f / 6)).toInt64 + (nI f - nI f / 6 * 6).toInt64 := (by decide +kernel : ∀ f, f < 24 → ((10 * (nI f / 6)) + (nI f - nI f / 6 * 6)).toInt64 = (10 * (nI f / 6)).toInt64 + (nI f - nI f / 6 * 6).toInt64) f hf
theorem rowSum_c {B : Nat} {h0 h : dnH} {A : Ab} {r : Nat} (w : Wf B [] A) (c : CS h0 sp0 [] h A) (hr : r < 31) (hl : live [] A r) (x : Int64) : fX9_checksumOfRow (some 1) x (some (5 + 4 * r)) h = some (dgW A x r, h) := by
  have o := w.2.2.2 r hr hl
  have N1 := o.2.1
  obtain ⟨f1, -, -⟩ := fh_live hl
  have rr := c.row hr hl
  have key : ∀ y, dnIt 1000 (fX9_checksumOfRow_b51 (some (5 + 4 * r))) (y, 0) h = some (dgC (A.2.2.1 r) y (A.2.2.1 r).2.1, h) := fun y => by
    refine dnIt_run (f := fX9_checksumOfRow_b51 (some (5 + 4 * r))) (q := dgC (A.2.2.1 r) y (A.2.2.1 r).2.1) (hq := h) (A.2.2.1 r).2.1 1000 (fun i => ((dgC (A.2.2.1 r) y i, nI i), h)) (by omega) ?_ ?_
    · intro i hi
      have hc : ¬ (nI (A.2.2.1 r).2.1 ≤ nI i) := fun hc => by have := (nI_leI (a := (A.2.2.1 r).2.1) (b := i) (by omega) (by omega)).mp hc; omega
      have cd := codeAt_A (B := B) (row1 c.1 hr) rr (show i < 12 by omega) (o.2.2 i (by omega)).1 (o.2.2 i (by omega)).2.2.2
      simp only [fX9_checksumOfRow_b51, dnB_eval, rg_i (row1 c.1 hr), rr.2.1, hc, if_false, rg_3 (row1 c.1 hr), ra_1 (row1 c.1 hr), dnIn_nI (show i < 12 by omega) (by decide), nI_clamp (show i < 2 ^ 31 by omega), if_true, (rr.2.2 i (by omega)).1, rv (row1 c.1 hr), cd, dnP, nI_1]
      rfl
    · simp only [fX9_checksumOfRow_b51, dnB_eval, rg_i (row1 c.1 hr), rr.2.1, Int32.le_refl, if_true, dnP]
  have hc := holder_c c hr
  rw [if_pos f1] at hc
  unfold dgW
  rw [h6 f1, ← Int64.add_assoc]
  simp only [fX9_checksumOfRow, dnB_eval, rg_i (row1 c.1 hr), c.2.2.1 r hr, sv (st1 c.1), hc, dnNz, show ¬ (6 : Int32) = 0 by decide, if_false, rr.2.1, key, dnP]
theorem rowSum_r {B : Nat} {h0 h : dnH} {A : Ab} {r : Nat} (w : Wf B [] A) (c : RS h0 [] h A) (hr : r < 31) (hl : live [] A r) (x : Int64) : ∃ h2, fX13_rowDigest (some 289) x (nI r) h = some (dgW A x r, h2) ∧ RS h0 [] h2 A := by
  have o := w.2.2.2 r hr hl
  have N1 := o.2.1
  obtain ⟨f1, -, -⟩ := fh_live hl
  have KK := fun y => it_inv (f := fX13_rowDigest_b49 (some 289) (nI r)) (Q := fun s k => s = dgC (A.2.2.1 r) y (A.2.2.1 r).2.1 ∧ RS h0 [] k A) (fun i s k => s = (dgC (A.2.2.1 r) y i, nI i) ∧ RS h0 [] k A) (A.2.2.1 r).2.1 1000 0 (by omega) (by omega) (fun i s k hi hI => by
    obtain ⟨rfl, rk⟩ := hI
    left
    have hc : ¬ (nI (A.2.2.1 r).2.1 ≤ nI i) := fun hc => by have := (nI_leI (a := (A.2.2.1 r).2.1) (b := i) (by omega) (by omega)).mp hc; omega
    obtain ⟨k2, a1, r2, v2⟩ := loads_A rk hr hl (show i < 12 by omega)
    have td := toldOf_A (B := B) r2.1 v2 (o.2.2 i (by omega)).1 (o.2.2 i (by omega)).2.2.2
    refine ⟨(dgC (A.2.2.1 r) y (i + 1), nI (i + 1)), k2, ?_, rfl, r2⟩
    simp only [fX13_rowDigest_b49, dnB_eval, g_289_7 rk.1, len_A rk hr hl, hc, if_false, v_289 rk.1, a1, g_289_12 r2.1, v2.1, v_289 r2.1, td, dnP, nI_1]
    rfl) (fun s k hI => by
    obtain ⟨rfl, rk⟩ := hI
    exact ⟨_, k, by simp only [fX13_rowDigest_b49, dnB_eval, g_289_7 rk.1, len_A rk hr hl, Int32.le_refl, if_true, dnP], rfl, rk⟩) (y, nI 0) h ⟨rfl, c⟩
  have hc := holder_r c w.2.1 (show r < 32 by omega)
  rw [if_pos f1] at hc
  obtain ⟨_, h2, e, rfl, r2⟩ := KK ((31 * ((31 * x) + ((10 * (nI (fh A r) / 6)) + (nI (fh A r) - nI (fh A r) / 6 * 6)).toInt64)) + (nI (A.2.2.1 r).2.1).toInt64)
  rw [nI_0] at e
  refine ⟨h2, ?_, r2⟩
  unfold dgW
  simp only [fX13_rowDigest, dnB_eval, v_289 c.1, hc, dnNz, show ¬ (6 : Int32) = 0 by decide, if_false, g_289_7 c.1, len_A c hr hl, e, dnP]
def dgP (A : Ab) (g : Nat) (x : Int64) : Nat → Int64
  | 0 => x
  | p + 1 => match gr A (6 * g + p) with | none => (31 * dgP A g x p) + (ct A (6 * g + p)).toInt64 | some r => dgW A ((31 * dgP A g x p) + (ct A (6 * g + p)).toInt64) r
theorem dgP_n {A : Ab} {g p : Nat} {x : Int64} (e : gr A (6 * g + p) = none) : dgP A g x (p + 1) = (31 * dgP A g x p) + (ct A (6 * g + p)).toInt64 := by
  show (match gr A (6 * g + p) with | none => _ | some r => _) = _
  rw [e]
theorem dgP_s {A : Ab} {g p r : Nat} {x : Int64} (e : gr A (6 * g + p) = some r) : dgP A g x (p + 1) = dgW A ((31 * dgP A g x p) + (ct A (6 * g + p)).toInt64) r := by
  show (match gr A (6 * g + p) with | none => _ | some r => _) = _
  rw [e]
/-- how many places a grid has; 0 if it is missing -/
def pln (A : Ab) (g : Nat) : Nat := (A.1 g).toNatClampNeg
theorem pln_A {B : Nat} {X : List Nat} {A : Ab} (w : Wf B X A) {g : Nat} (hg : g < 4) : pln A g ≤ 6 ∧ (∀ p, p < pln A g → A.1 g = nI (pln A g)) ∧ (A.1 g ≤ nI (pln A g)) ∧ ∀ p, p < pln A g → ¬ A.1 g ≤ nI p := by
  unfold pln
  rcases w.1 g hg with e | ⟨m, hm, e⟩
  · rw [e]
    refine ⟨by decide, fun p hp => absurd hp (by show ¬ p < 0; omega), by decide, fun p hp => absurd hp (by show ¬ p < 0; omega)⟩
  · rw [e, nI_clamp (by omega)]
    exact ⟨hm, fun _ _ => rfl, Int32.le_refl _, fun p hp hc => by have := (nI_leI (a := m) (b := p) (by omega) (by omega)).mp hc; omega⟩
def dgG (A : Ab) : Nat → Int64
  | 0 => 17
  | g + 1 => dgP A g ((31 * dgG A g) + (A.1 g).toInt64) (pln A g)
theorem call_digest (B : Nat) : Call B B (fX12_digest (some 0)) (fX13_digest (some 289)) := by
  refine call_pure (fun A w => ⟨dgG A 4, fun h0 h c => ?_, fun q0 k r => ?_⟩)
  · have inn : ∀ g, g < 4 → ∀ x, dnIt 1000 (fX9_checksum_b28 (some 1) (nI g)) (x, 0) h = some (dgP A g x (pln A g), h) := fun g hg x => by
      obtain ⟨p1, p2, p3, p4⟩ := pln_A w hg
      refine dnIt_run (f := fX9_checksum_b28 (some 1) (nI g)) (q := dgP A g x (pln A g)) (hq := h) (pln A g) 1000 (fun p => ((dgP A g x p, nI p), h)) (by omega) ?_ ?_
      · intro p hp
        have em := p2 p hp
        have ctc := (content_A w hg p1 hp em).1 h0 _ _ h c
        rcases gr_A w hg p1 em hp with ⟨e, kc, kr⟩ | ⟨r, hr, e, -, hl, o, kc, kr⟩
        · rw [dgP_n e]
          simp only [fX9_checksum_b28, fX9_checksum_j79, dnB_eval, sg_0 (st1 c.1), plc_A c hg, p4 p hp, if_false, sv (st1 c.1), ctc, kc h0 _ _ h c, Option.elim, dnP, nI_1]
        · rw [dgP_s e]
          simp only [fX9_checksum_b28, fX9_checksum_j79, dnB_eval, sg_0 (st1 c.1), plc_A c hg, p4 p hp, if_false, sv (st1 c.1), ctc, kc h0 _ _ h c, Option.elim, rowSum_c w c hr (hl _), dnP, nI_1]
      · simp only [fX9_checksum_b28, dnB_eval, sg_0 (st1 c.1), plc_A c hg, p3, if_true, dnP]
    have out : dnIt 1000 (fX9_checksum_b6 (some 1)) (17, 0) h = some (dgG A 4, h) := by
      refine dnIt_run (f := fX9_checksum_b6 (some 1)) (q := dgG A 4) (hq := h) 4 1000 (fun g => ((dgG A g, nI g), h)) (by decide) ?_ ?_
      · intro g hg
        have hc : ¬ ((4 : Int32) ≤ nI g) := fun hc => by have := (nI_leI (a := 4) (b := g) (by omega) (by omega)).mp hc; omega
        simp only [fX9_checksum_b6, hc, if_false, dnB_eval, sg_0 (st1 c.1), plc_A c hg, inn g hg, dnP, nI_1]
        rfl
      · simp only [fX9_checksum_b6, show (4 : Int32) ≤ nI 4 by decide, if_true, dnP]
    simp only [fX12_digest, fX9_checksum, dnB_eval, g_0_0 c.1, sv (st1 c.1), out, dnP]
  · have inn : ∀ g, g < 4 → ∀ x k, RS q0 [] k A → ∃ k2, dnIt 1000 (fX13_digest_b28 (some 289) (nI g)) (x, 0) k = some (dgP A g x (pln A g), k2) ∧ RS q0 [] k2 A := fun g hg x k r => by
      obtain ⟨p1, p2, p3, p4⟩ := pln_A w hg
      have KK := it_inv (f := fX13_digest_b28 (some 289) (nI g)) (Q := fun s k => s = dgP A g x (pln A g) ∧ RS q0 [] k A) (fun p s k => s = (dgP A g x p, nI p) ∧ RS q0 [] k A) (pln A g) 1000 0 (by omega) (by omega) ?_ ?_ (x, nI 0) k ⟨rfl, r⟩
      · obtain ⟨_, k2, e, rfl, r2⟩ := KK
        rw [nI_0] at e
        exact ⟨k2, e, r2⟩
      · rintro p s k hp ⟨rfl, rk⟩
        left
        have em := p2 p hp
        have ctc := (content_A w hg p1 hp em).2 q0 _ k rk
        have hd : fX13_held (some 289) (nI g) (nI p) k = some (rc (A.2.1 (6 * g + p)), k) := by rw [held_r rk.1 hg (by omega), rk.hd (by omega)]
        rcases gr_A w hg p1 em hp with ⟨e, kc, kr⟩ | ⟨r, hr, e, e3, hl, o, kc, kr⟩
        · have hneg : rc (A.2.1 (6 * g + p)) < 0 := by
            have hn : A.2.1 (6 * g + p) < 0 := by
              unfold gr at e
              split at e
              · assumption
              · cases e
            rcases w.2.1 (6 * g + p) (by omega) with e2 | e2 | e2 | ⟨n, hn2, e2⟩
            · rw [e2]; decide
            · rw [e2]; decide
            · rw [e2]; decide
            · rw [e2] at hn
              exact absurd hn (nI_pos (by omega))
          refine ⟨_, k, ?_, rfl, rk⟩
          rw [dgP_n e]
          simp only [fX13_digest_b28, fX13_digest_j80, dnB_eval, g_289_4 rk.1, plr_A rk hg, p4 p hp, if_false, v_289 rk.1, ctc, hd, hneg, if_true, dnP, nI_1]
        · rw [e3, rc_nI hr] at hd
          obtain ⟨k2, t1, r2⟩ := rowSum_r w rk hr (hl _) ((31 * dgP A g x p) + (ct A (6 * g + p)).toInt64)
          refine ⟨_, k2, ?_, rfl, r2⟩
          rw [dgP_s e]
          simp only [fX13_digest_b28, fX13_digest_j80, dnB_eval, g_289_4 rk.1, plr_A rk hg, p4 p hp, if_false, v_289 rk.1, ctc, hd, nI_pos (show r < 2 ^ 31 by omega), t1, dnP, nI_1]
      · rintro s k ⟨rfl, rk⟩
        exact ⟨_, k, by simp only [fX13_digest_b28, dnB_eval, g_289_4 rk.1, plr_A rk hg, p3, if_true, dnP], rfl, rk⟩
    have KK := it_inv (f := fX13_digest_b6 (some 289)) (Q := fun s k => s = dgG A 4 ∧ RS q0 [] k A) (fun g s k => s = (dgG A g, nI g) ∧ RS q0 [] k A) 4 1000 0 (by decide) (by decide) ?_ ?_ (17, nI 0) k ⟨rfl, r⟩
    · obtain ⟨_, k2, e, rfl, r2⟩ := KK
      rw [nI_0] at e
      exact ⟨k2, by simp only [fX13_digest, dnB_eval, e, dnP], r2⟩
    · rintro g s k hg ⟨rfl, rk⟩
      left
      have hc : ¬ ((4 : Int32) ≤ nI g) := fun hc => by have := (nI_leI (a := 4) (b := g) (by omega) (by omega)).mp hc; omega
      obtain ⟨k2, t1, r2⟩ := inn g hg ((31 * dgG A g) + (A.1 g).toInt64) k rk
      refine ⟨(dgG A (g + 1), nI (g + 1)), k2, ?_, rfl, r2⟩
      simp only [fX13_digest_b6, hc, if_false, dnB_eval, g_289_4 rk.1, plr_A rk hg, t1, dnP, nI_1]
      rfl
    · rintro s k ⟨rfl, rk⟩
      exact ⟨_, k, by simp only [fX13_digest_b6, show (4 : Int32) ≤ nI 4 by decide, if_true, dnP], rfl, rk⟩
