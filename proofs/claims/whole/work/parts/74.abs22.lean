/-! ABS 22: pick -/
def pkR (R Q : Rw) (F : Nat → Bool) : Nat → Rw
  | 0 => R
  | i + 1 => if F i then setC (pkR R Q F i) (cN F i) (Q.2.2 i) else pkR R Q F i
theorem pk_fld (R Q : Rw) (F : Nat → Bool) : ∀ i, (pkR R Q F i).1 = R.1 ∧ (pkR R Q F i).2.1 = R.2.1 := by
  intro i
  induction i with
  | zero => exact ⟨rfl, rfl⟩
  | succ i ih =>
    show (if F i then setC (pkR R Q F i) (cN F i) (Q.2.2 i) else pkR R Q F i).1 = R.1 ∧ (if F i then setC (pkR R Q F i) (cN F i) (Q.2.2 i) else pkR R Q F i).2.1 = R.2.1
    split
    · exact ih
    · exact ih
theorem pk_ok {B : Nat} {R Q : Rw} {F : Nat → Bool} (hR : rwOk B R) : ∀ i, (∀ j, j < i → celOk B R.1 (Q.2.2 j)) → rwOk B (pkR R Q F i) := by
  intro i
  induction i with
  | zero => exact fun _ => hR
  | succ i ih =>
    intro hq
    have := ih (fun j hj => hq j (by omega))
    show rwOk B (if F i then setC (pkR R Q F i) (cN F i) (Q.2.2 i) else pkR R Q F i)
    split
    · exact rwOk_set this (by rw [(pk_fld R Q F i).1]; exact hq i (by omega))
    · exact this
theorem cN_mono (F : Nat → Bool) (i : Nat) : ∀ d, cN F i ≤ cN F (i + d) := by
  intro d
  induction d with
  | zero => exact Nat.le_refl _
  | succ d ih =>
    show cN F i ≤ cN F (i + d) + (if F (i + d) then 1 else 0)
    omega
theorem pk_stop {R Q : Rw} {F : Nat → Bool} (i : Nat) : ∀ d, cN F (i + d) ≤ cN F i → pkR R Q F (i + d) = pkR R Q F i := by
  intro d
  induction d with
  | zero => exact fun _ => rfl
  | succ d ih =>
    intro h
    have h : cN F (i + d) + (if F (i + d) then 1 else 0) ≤ cN F i := h
    have m := cN_mono F i d
    show (if F (i + d) then setC (pkR R Q F (i + d)) (cN F (i + d)) (Q.2.2 (i + d)) else pkR R Q F (i + d)) = _
    cases q : F (i + d)
    · simp only [Bool.false_eq_true, if_false]
      exact ih (by omega)
    · rw [q] at h
      simp only [if_true] at h
      omega
theorem step_pick {B : Nat} (hB : 16 ≤ B) (g p p2 : Int32) : Step B B (fX6_pickTrue (some 259) g p p2) (fX13_pickDeed (some 289) g p p2) := by
  intro A w
  cases hg : inB g 0 3
  · rcases lookR w g p with ⟨f, f0, f1, f2, f3⟩ | ⟨G, P, m, r, hG, hP, hm, hr, rfl, rfl, e1, e2, hb, _⟩
    · rw [f1 hg] at f2
      exact step_ro (-1) w (fun h0 h c => by simp only [fX6_pickTrue, hg, g_259_0 c.1, sv (st1 c.1), (f2 h0 _ _ h c).1, (f2 h0 _ _ h c).2, Option.elim, dnB_eval, c_isGrid, c_isKind, c_isSort, c_isPlain, r_isGrid, r_isKind, r_isSort, r_isPlain, r_in, dnP, Bool.false_eq_true, if_false, if_true]) (fun q0 q r => by simp only [fX13_pickDeed, hg, dnB_eval, c_isGrid, c_isKind, c_isSort, c_isPlain, r_isGrid, r_isKind, r_isSort, r_isPlain, r_in, dnP, Bool.false_eq_true, if_false, if_true])
    · rw [hg] at hb
      cases hb
  rcases lookR w g p with ⟨f, f0, -, f2, f3⟩ | ⟨G, P, m, r, hG, hP, hm, hr, rfl, rfl, e1, e2, -, hl, -, hrw, l1, l2⟩
  · obtain ⟨n1, n2⟩ := neg_fault f0
    exact step_ro f w (fun h0 h c => by simp only [fX6_pickTrue, g_259_0 c.1, sv (st1 c.1), (f2 h0 _ _ h c).1, (f2 h0 _ _ h c).2, Option.elim, dnB_eval, c_isGrid, c_isKind, c_isSort, c_isPlain, r_isGrid, r_isKind, r_isSort, r_isPlain, r_in, dnP, Bool.false_eq_true, if_false, if_true]) (fun q0 q r => by simp only [fX13_pickDeed, fX13_twoRows, hg, v_289 r.1, f3 hg q0 _ q r, n1, dnB_eval, c_isGrid, c_isKind, c_isSort, c_isPlain, r_isGrid, r_isKind, r_isSort, r_isPlain, r_in, dnP, Bool.false_eq_true, if_false, if_true])
  rcases lookR w (nI G) p2 with ⟨f, f0, -, f2, f3⟩ | ⟨G2, P2, m2, t, hG2, hP2, hm2, ht, -, rfl, e12, e22, -, hlt, -, htw, k1, k2⟩
  · obtain ⟨n1, n2⟩ := neg_fault f0
    exact step_ro f w (fun h0 h c => by simp only [fX6_pickTrue, g_259_0 c.1, sv (st1 c.1), l1 h0 _ _ h c, (f2 h0 _ _ h c).1, (f2 h0 _ _ h c).2, Option.elim, dnB_eval, c_isGrid, c_isKind, c_isSort, c_isPlain, r_isGrid, r_isKind, r_isSort, r_isPlain, r_in, dnP, Bool.false_eq_true, if_false, if_true]) (fun q0 q r => by simp only [fX13_pickDeed, fX13_twoRows, hg, v_289 r.1, (l2 q0 _ q r).1, f3 hg q0 _ q r, n1, dnB_eval, c_isGrid, c_isKind, c_isSort, c_isPlain, r_isGrid, r_isKind, r_isSort, r_isPlain, r_in, dnP, Bool.false_eq_true, if_false, if_true])
  have N1 := hrw.2.1
  have N2 := htw.2.1
  let F : Nat → Bool := fun i => decide (((A.2.2.1 t).2.2 i).2.1 = 1)
  let E : Nat → Bool := fun i => decide (i < (A.2.2.1 t).2.1) && (decide ((A.2.2.1 t).1 < 8) && tk 0 (A.2.2.1 t).1)
  let v : Nat → Int32 := fun i => if i < (A.2.2.1 t).2.1 then -7 else -6
  have lgF : ∀ i, ¬ lg_cmp ((A.2.2.1 t).2.2 i).2.1 1 = 0 ↔ F i = false := fun i => by
    rw [lg_cmp_eq]
    show _ ↔ decide _ = false
    rw [decide_eq_false_iff_not]
  -- a turn of each first loop
  have cst : ∀ h0 h, CS h0 sp0 [] h A → ∀ i, i < (A.2.2.1 r).2.1 → fX6_pickTrue_b58 (some 259) (nI G) (nI P) (some (5 + 4 * r)) (some (5 + 4 * t)) (aI F i, nI i) h = if E i = true then some (.inl (aI F (i + 1), nI (i + 1)), h) else some (.inr (.inr (v i)), h) := fun h0 h c i hi => by
    have hc : ¬ (nI (A.2.2.1 r).2.1 ≤ nI i) := fun hc => by have := (nI_leI (a := (A.2.2.1 r).2.1) (b := i) (by omega) (by omega)).mp hc; omega
    have hcel := hasCell_cN (row1 c.1 ht) (c.row ht hlt).2.1 N2 (show i < 2 ^ 31 by omega)
    have i1 := dnIn_nI (show i < 12 by omega) (by decide)
    have i2 : (nI i).toNatClampNeg = i := nI_clamp (by omega)
    have nm := ((c.row ht hlt).2.2 i (by omega)).2.1
    show _ = if (decide (i < (A.2.2.1 t).2.1) && (decide ((A.2.2.1 t).1 < 8) && tk 0 (A.2.2.1 t).1)) = true then some (Sum.inl (aI F i + dnZ (F i), nI (i + 1)), h) else some (Sum.inr (Sum.inr (if i < (A.2.2.1 t).2.1 then -7 else -6)), h)
    simp only [fX6_pickTrue_b58, fX6_pickTrue_j116, dnB_eval, rg_i (row1 c.1 hr), (c.row hr hl).2.1, hc, if_false, rv (row1 c.1 ht), hcel]
    by_cases q1 : i < (A.2.2.1 t).2.1
    · have rd := c_readsAs htw.1 (show 0 < 12 by decide)
      have rd : fX12_readsAs (nI (A.2.2.1 t).1) 0 = dnP (decide ((A.2.2.1 t).1 < 8) && true && tk 0 (A.2.2.1 t).1) := rd
      rw [Bool.and_true] at rd
      simp only [q1, decide_true, if_true, dnB_eval, rg_i (row1 c.1 ht), (c.row ht hlt).1, rd, dnP, Bool.true_and]
      cases (decide ((A.2.2.1 t).1 < 8) && tk 0 (A.2.2.1 t).1)
      · simp only [Bool.false_eq_true, if_false, dnP]
      · simp only [if_true, dnB_eval, rg_4 (row1 c.1 ht), ra_2 (row1 c.1 ht), i1, i2, nm, lgF, dnP, nI_1]
        cases F i <;> rfl
    · simp only [q1, decide_false, Bool.false_eq_true, if_false, dnP, Bool.false_and]
  have cfin : ∀ h0 h, CS h0 sp0 [] h A → fX6_pickTrue_b58 (some 259) (nI G) (nI P) (some (5 + 4 * r)) (some (5 + 4 * t)) (aI F (A.2.2.1 r).2.1, nI (A.2.2.1 r).2.1) h = some (.inr (.inl (aI F (A.2.2.1 r).2.1)), h) := fun h0 h c => by
    simp only [fX6_pickTrue_b58, dnB_eval, rg_i (row1 c.1 hr), (c.row hr hl).2.1, Int32.le_refl, if_true, dnP]
  have kd0 : (decide ((A.2.2.1 t).1 < 8) && tk 0 (A.2.2.1 t).1) = true → (A.2.2.1 t).1 = 0 := fun hq => (by decide +kernel : ∀ k, k < 12 → (decide (k < 8) && tk 0 k) = true → k = 0) _ htw.1 hq
  have rst : ∀ q0 k, RS q0 [] k A → ∀ i, i < (A.2.2.1 r).2.1 → fX13_pickDeed_b49 (some 289) (nI G) (nI P) (nI r) (nI t) (aI F i, nI i) k = if E i = true then some (.inl (aI F (i + 1), nI (i + 1)), k) else some (.inr (.inr (v i)), k) := fun q0 k r' i hi => by
    have hc : ¬ (nI (A.2.2.1 r).2.1 ≤ nI i) := fun hc => by have := (nI_leI (a := (A.2.2.1 r).2.1) (b := i) (by omega) (by omega)).mp hc; omega
    show _ = if (decide (i < (A.2.2.1 t).2.1) && (decide ((A.2.2.1 t).1 < 8) && tk 0 (A.2.2.1 t).1)) = true then some (Sum.inl (aI F i + dnZ (F i), nI (i + 1)), k) else some (Sum.inr (Sum.inr (if i < (A.2.2.1 t).2.1 then -7 else -6)), k)
    simp only [fX13_pickDeed_b49, dnB_eval, g_289_7 r'.1, len_A r' hr hl, len_A r' ht hlt, hc, if_false, nI_ltI (show i < 2 ^ 31 by omega) (show (A.2.2.1 t).2.1 < 2 ^ 31 by omega)]
    by_cases q1 : i < (A.2.2.1 t).2.1
    · have rd := isReadable_A (a := 0) r' ht hlt htw.1 (by decide)
      rw [nI_0] at rd
      simp only [q1, if_true, dnB_eval, v_289 r'.1, rd, decide_true, Bool.true_and]
      cases hq : (decide ((A.2.2.1 t).1 < 8) && tk 0 (A.2.2.1 t).1)
      · simp only [Bool.false_eq_true, if_false, dnP]
      · have hk0 := kd0 hq
        have cel := htw.2.2 i (by omega)
        have s0 : ((A.2.2.1 t).2.2 i).1 = 0 := by rw [cel.2.2.1 (by omega), hk0]
        have n01 := cel.2.2.2.2.1 s0
        have ez : ((A.2.2.1 t).2.2 i).2.1.toInt32 = dnZ (F i) := by
          show _ = dnZ (decide _)
          rcases n01 with e | e
          · rw [e]; rfl
          · rw [e]; rfl
        simp only [if_true, dnB_eval, g_289_10 r'.1, at_r, num_A r' ht hlt (show i < 12 by omega), ez, dnP, nI_1]
    · simp only [q1, if_false, decide_false, Bool.false_eq_true, dnP, Bool.false_and]
  have rfin : ∀ q0 k, RS q0 [] k A → fX13_pickDeed_b49 (some 289) (nI G) (nI P) (nI r) (nI t) (aI F (A.2.2.1 r).2.1, nI (A.2.2.1 r).2.1) k = some (.inr (.inl (aI F (A.2.2.1 r).2.1)), k) := fun q0 k r' => by
    simp only [fX13_pickDeed_b49, dnB_eval, g_289_7 r'.1, len_A r' hr hl, Int32.le_refl, if_true, dnP]
  rcases first_of (fun i => !E i) (A.2.2.1 r).2.1 with hf | ⟨I, hI, hI1, hI2⟩
  case inr =>
    have hno : E I = false := by simpa using hI1
    have hlo : ∀ i, i < I → E i = true := fun i hi => by simpa using hI2 i hi
    refine step_ro (v I) w (fun h0 h c => ?_) (fun q0 k r' => ?_)
    · have key := dnIt_run (f := fX6_pickTrue_b58 (some 259) (nI G) (nI P) (some (5 + 4 * r)) (some (5 + 4 * t))) (q := .inr (v I)) (hq := h) I 1000 (fun i => ((aI F i, nI i), h)) (by omega) (fun i hi => by rw [cst h0 h c i (by omega), hlo i hi]; rfl) (by rw [cst h0 h c I hI, hno]; rfl)
      have key : dnIt 1000 (fX6_pickTrue_b58 (some 259) (nI G) (nI P) (some (5 + 4 * r)) (some (5 + 4 * t))) (0, 0) h = some (.inr (v I), h) := key
      simp only [fX6_pickTrue, g_259_0 c.1, sv (st1 c.1), l1 h0 _ _ h c, k1 h0 _ _ h c, Option.elim, key, Sum.elim_inr, dnB_eval, c_isGrid, c_isKind, c_isSort, c_isPlain, r_isGrid, r_isKind, r_isSort, r_isPlain, r_in, dnP, Bool.false_eq_true, if_false, if_true]
    · have key := dnIt_run (f := fX13_pickDeed_b49 (some 289) (nI G) (nI P) (nI r) (nI t)) (q := .inr (v I)) (hq := k) I 1000 (fun i => ((aI F i, nI i), k)) (by omega) (fun i hi => by rw [rst q0 k r' i (by omega), hlo i hi]; rfl) (by rw [rst q0 k r' I hI, hno]; rfl)
      have key : dnIt 1000 (fX13_pickDeed_b49 (some 289) (nI G) (nI P) (nI r) (nI t)) (0, 0) k = some (.inr (v I), k) := key
      simp only [fX13_pickDeed, fX13_twoRows, hg, v_289 r'.1, (l2 q0 _ k r').1, (l2 q0 _ k r').2, (k2 q0 _ k r').1, (k2 q0 _ k r').2, key, Sum.elim_inr, dnB_eval, c_isGrid, c_isKind, c_isSort, c_isPlain, r_isGrid, r_isKind, r_isSort, r_isPlain, r_in, dnP, Bool.false_eq_true, if_false, if_true]
  have hall : ∀ i, i < (A.2.2.1 r).2.1 → E i = true := fun i hi => by simpa using hf i hi
  have cle := cN_le F (A.2.2.1 r).2.1
  obtain ⟨x, hx⟩ := exFr (X := []) A (by decide)
  have hx1 := hx.1
  have hrx : r ≠ x := fun e => hx.2.1 (e ▸ hl)
  have htx : t ≠ x := fun e => hx.2.1 (e ▸ hlt)
  have hlx : live [x] A x := .inl (List.mem_singleton.mpr rfl)
  have hlr : live [x] A r := live_mono subN hl
  have hlt' : live [x] A t := live_mono subN hlt
  have hnew := rwOk_new (B := B) (kd := (A.2.2.1 r).1) (n := cN F (A.2.2.1 r).2.1) hB hrw.1 (by omega)
  let D : Nat → Rw := pkR (newR (A.2.2.1 r).1 (cN F (A.2.2.1 r).2.1)) (A.2.2.1 r) F
  have okD : ∀ i, i ≤ (A.2.2.1 r).2.1 → rwOk B (D i) := fun i hi => pk_ok hnew i (fun j hj => hrw.2.2 j (by omega))
  have kdD : ∀ i, (D i).1 = (A.2.2.1 r).1 := fun i => (pk_fld _ _ _ i).1
  have Ds : ∀ i, F i = true → D (i + 1) = setC (D i) (cN F i) ((A.2.2.1 r).2.2 i) := fun i hi => by
    show (if F i then _ else _) = _
    rw [hi]; rfl
  have Dn : ∀ i, F i = false → D (i + 1) = D i := fun i hi => by
    show (if F i then _ else _) = _
    rw [hi]; rfl
  have cs1 : ∀ i, F i = true → cN F (i + 1) = cN F i + 1 := fun i hi => by
    show cN F i + (if F i then 1 else 0) = _
    rw [hi]; rfl
  have cs0 : ∀ i, F i = false → cN F (i + 1) = cN F i := fun i hi => by
    show cN F i + (if F i then 1 else 0) = _
    rw [hi]; rfl
  refine ⟨nI (cN F (A.2.2.1 r).2.1), setH (setR A x (D (A.2.2.1 r).2.1)) (6 * G + P) (nI x), wf_new w hx1 (okD _ (Nat.le_refl _)) hG hm hP e1, fun h0 h c => ?_, fun q0 k r' => ?_⟩
  · have key := dnIt_run (f := fX6_pickTrue_b58 (some 259) (nI G) (nI P) (some (5 + 4 * r)) (some (5 + 4 * t))) (q := .inl (aI F (A.2.2.1 r).2.1)) (hq := h) (A.2.2.1 r).2.1 1000 (fun i => ((aI F i, nI i), h)) (by omega) (fun i hi => by rw [cst h0 h c i (by omega), hall i hi]; rfl) (cfin h0 h c)
    have key : dnIt 1000 (fX6_pickTrue_b58 (some 259) (nI G) (nI P) (some (5 + 4 * r)) (some (5 + 4 * t))) (0, 0) h = some (.inl (aI F (A.2.2.1 r).2.1), h) := key
    rw [aI_nI] at key
    obtain ⟨h1, a1, c1⟩ := freshRow_A (kd := (A.2.2.1 r).1) (ln := cN F (A.2.2.1 r).2.1) c spX_0 hx hrw.1
    have KK := it_inv (f := fX6_pickTrue_b147 (some 259) (nI G) (nI P) (some (5 + 4 * r)) (some (5 + 4 * t)) (nI (cN F (A.2.2.1 r).2.1)) (some (5 + 4 * x))) (Q := fun _ k => CS h0 sp0 [x] k (setR A x (D (A.2.2.1 r).2.1))) (fun j s k => s = (nI (cN F j), nI j) ∧ CS h0 sp0 [x] k (setR A x (D j))) (A.2.2.1 r).2.1 1000 0 (by omega) (by omega) ?_ ?_ (nI (cN F 0), nI 0) h1 ⟨rfl, c1⟩
    · obtain ⟨_, h2, b1, c2⟩ := KK
      have b1 : dnIt 1000 (fX6_pickTrue_b147 (some 259) (nI G) (nI P) (some (5 + 4 * r)) (some (5 + 4 * t)) (nI (cN F (A.2.2.1 r).2.1)) (some (5 + 4 * x))) (0, 0) h1 = some (_, h2) := b1
      obtain ⟨d1, c3⟩ := place_A (q := P) c2 hG (by omega) hx1 hlx
      refine ⟨_, ?_, c3.sub subN⟩
      simp only [fX6_pickTrue, fX6_pickTrue_j198, g_259_0 c.1, sv (st1 c.1), l1 h0 _ _ h c, k1 h0 _ _ h c, Option.elim, key, Sum.elim_inl, rg_i (row1 c.1 hr), (c.row hr hl).1, a1, b1, g_259_0 c2.1, sv (st1 c2.1), d1, dnB_eval, c_isGrid, c_isKind, c_isSort, c_isPlain, r_isGrid, r_isKind, r_isSort, r_isPlain, r_in, dnP, Bool.false_eq_true, if_false, if_true]
    · rintro j s k hj ⟨rfl, ck⟩
      have hc : ¬ (nI (A.2.2.1 r).2.1 ≤ nI j) := fun hc => by have := (nI_leI (a := (A.2.2.1 r).2.1) (b := j) (by omega) (by omega)).mp hc; omega
      have rr := ck.row hr hlr
      rw [setR_ne hrx] at rr
      have rt := ck.row ht hlt'
      rw [setR_ne htx] at rt
      have mono := cN_mono F j ((A.2.2.1 r).2.1 - j)
      rw [show j + ((A.2.2.1 r).2.1 - j) = (A.2.2.1 r).2.1 by omega] at mono
      have cj := cN_le F j
      by_cases st : cN F (A.2.2.1 r).2.1 ≤ cN F j
      · right
        have es := pk_stop (R := newR (A.2.2.1 r).1 (cN F (A.2.2.1 r).2.1)) (Q := A.2.2.1 r) (F := F) j ((A.2.2.1 r).2.1 - j) (by rw [show j + ((A.2.2.1 r).2.1 - j) = (A.2.2.1 r).2.1 by omega]; exact st)
        rw [show j + ((A.2.2.1 r).2.1 - j) = (A.2.2.1 r).2.1 by omega] at es
        have hst : nI (cN F (A.2.2.1 r).2.1) ≤ nI (cN F j) := (nI_leI (by omega) (by omega)).mpr st
        refine ⟨(), k, by simp only [fX6_pickTrue_b147, dnB_eval, rg_i (row1 ck.1 hr), rr.2.1, hc, hst, if_false, if_true, dnP], ?_⟩
        show CS h0 sp0 [x] k (setR A x (pkR _ _ F (A.2.2.1 r).2.1))
        rw [es]
        exact ck
      · left
        have hst : ¬ nI (cN F (A.2.2.1 r).2.1) ≤ nI (cN F j) := fun hc => st ((nI_leI (by omega) (by omega)).mp hc)
        have i1 := dnIn_nI (show j < 12 by omega) (by decide)
        have i2 : (nI j).toNatClampNeg = j := nI_clamp (by omega)
        have nm := (rt.2.2 j (by omega)).2.1
        cases hF : F j
        · refine ⟨_, k, ?_, rfl, by rw [Dn j hF]; exact ck⟩
          rw [cs0 j hF]
          simp only [fX6_pickTrue_b147, fX6_pickTrue_j192, dnB_eval, rg_i (row1 ck.1 hr), rr.2.1, hc, hst, if_false, rg_4 (row1 ck.1 ht), ra_2 (row1 ck.1 ht), i1, i2, if_true, nm, lgF, hF, dnP, nI_1]
        · have ok := okD j (by omega)
          obtain ⟨k3, b1, b2⟩ := accept_S (B := B) (i := cN F j) (j := j) ck hx1 hlx hr hlr (by omega) (by omega) (by rw [setR_at]; exact ok) (by rw [setR_ne hrx]; exact hrw.2.2 j (by omega))
          rw [setR_at, setR_ne hrx, kdD j, if_pos (hrw.2.2 j (by omega)).2.1, setR_setR, cvt_self (hrw.2.2 j (by omega)), ← Ds j hF] at b2
          refine ⟨_, k3, ?_, rfl, b2⟩
          rw [cs1 j hF]
          simp only [fX6_pickTrue_b147, fX6_pickTrue_j192, dnB_eval, rg_i (row1 ck.1 hr), rr.2.1, hc, hst, if_false, rg_4 (row1 ck.1 ht), ra_2 (row1 ck.1 ht), i1, i2, if_true, nm, lgF, hF, Bool.true_eq_false, rv (row1 ck.1 hx1), b1, dnP, nI_1]
    · rintro s k ⟨rfl, ck⟩
      have rr := ck.row hr hlr
      rw [setR_ne hrx] at rr
      exact ⟨(), k, by simp only [fX6_pickTrue_b147, dnB_eval, rg_i (row1 ck.1 hr), rr.2.1, Int32.le_refl, if_true, dnP], ck⟩
  · have key := dnIt_run (f := fX13_pickDeed_b49 (some 289) (nI G) (nI P) (nI r) (nI t)) (q := .inl (aI F (A.2.2.1 r).2.1)) (hq := k) (A.2.2.1 r).2.1 1000 (fun i => ((aI F i, nI i), k)) (by omega) (fun i hi => by rw [rst q0 k r' i (by omega), hall i hi]; rfl) (rfin q0 k r')
    have key : dnIt 1000 (fX13_pickDeed_b49 (some 289) (nI G) (nI P) (nI r) (nI t)) (0, 0) k = some (.inl (aI F (A.2.2.1 r).2.1), k) := key
    rw [aI_nI] at key
    obtain ⟨k3, a1, r1⟩ := newRow_A (kd := (A.2.2.1 r).1) (ln := cN F (A.2.2.1 r).2.1) r' w.2.1 hx hrw.1
    have KK := it_inv (f := fX13_pickDeed_b135 (some 289) (nI G) (nI P) (nI r) (nI t) (nI (cN F (A.2.2.1 r).2.1)) (nI x)) (Q := fun _ k => RS q0 [x] k (setR A x (D (A.2.2.1 r).2.1))) (fun j s k => s = (nI (cN F j), nI j) ∧ RS q0 [x] k (setR A x (D j))) (A.2.2.1 r).2.1 1000 0 (by omega) (by omega) ?_ ?_ (nI (cN F 0), nI 0) k3 ⟨rfl, r1⟩
    · obtain ⟨_, k4, b1, r2⟩ := KK
      have b1 : dnIt 1000 (fX13_pickDeed_b135 (some 289) (nI G) (nI P) (nI r) (nI t) (nI (cN F (A.2.2.1 r).2.1)) (nI x)) (0, 0) k3 = some (_, k4) := b1
      obtain ⟨d1, r3⟩ := holdsNow_A (v := nI x) (p := P) r2 hG (by omega) (fun n hn e => by
        rw [← (nI_eq (by omega) (by omega)).mp e]
        exact hlx)
      rw [rc_nI hx1] at d1 r3
      refine ⟨_, _, ?_, r3⟩
      simp only [fX13_pickDeed, fX13_twoRows, hg, v_289 r'.1, (l2 q0 _ k r').1, (l2 q0 _ k r').2, (k2 q0 _ k r').1, (k2 q0 _ k r').2, key, Sum.elim_inl, g_289_6 r'.1, kind_A r' hr hl, a1, b1, v_289 r2.1, d1, dnB_eval, c_isGrid, c_isKind, c_isSort, c_isPlain, r_isGrid, r_isKind, r_isSort, r_isPlain, r_in, dnP, Bool.false_eq_true, if_false, if_true]
    · rintro j s k hj ⟨rfl, rk⟩
      left
      have hc : ¬ (nI (A.2.2.1 r).2.1 ≤ nI j) := fun hc => by have := (nI_leI (a := (A.2.2.1 r).2.1) (b := j) (by omega) (by omega)).mp hc; omega
      have lr := len_A rk hr hlr
      rw [setR_ne hrx] at lr
      have nm := num_A rk ht hlt' (show j < 12 by omega)
      rw [setR_ne htx] at nm
      have cj := cN_le F j
      cases hF : F j
      · refine ⟨_, k, ?_, rfl, by rw [Dn j hF]; exact rk⟩
        rw [cs0 j hF]
        simp only [fX13_pickDeed_b135, fX13_pickDeed_j180, dnB_eval, g_289_7 rk.1, lr, hc, if_false, g_289_10 rk.1, at_r, nm, lgF, hF, if_true, dnP, nI_1]
      · obtain ⟨k5, b1, b2⟩ := copies_A (B := B) (i := j) (j := cN F j) rk hr hlr (by omega) hx1 hlx (by omega) (by rw [setR_at, kdD j]; exact hrw.1) (by rw [setR_ne hrx]; exact hrw.2.2 j (by omega))
        rw [setR_at, setR_ne hrx, kdD j, if_pos (hrw.2.2 j (by omega)).2.1, setR_setR, cvt_self (hrw.2.2 j (by omega)), ← Ds j hF] at b2
        refine ⟨_, k5, ?_, rfl, b2⟩
        rw [cs1 j hF]
        simp only [fX13_pickDeed_b135, fX13_pickDeed_j180, dnB_eval, g_289_7 rk.1, lr, hc, if_false, g_289_10 rk.1, at_r, nm, lgF, hF, Bool.true_eq_false, v_289 rk.1, b1, dnP, nI_1]
    · rintro s k ⟨rfl, rk⟩
      have lr := len_A rk hr hlr
      rw [setR_ne hrx] at lr
      exact ⟨(), k, by simp only [fX13_pickDeed_b135, dnB_eval, g_289_7 rk.1, lr, Int32.le_refl, if_true, dnP], rk⟩

theorem call_pick {B : Nat} (hB : 16 ≤ B) (g p q : Int32) : Call B B (fX12_pick (some 0) g p q) (fX13_pick (some 289) g p q) :=
  callA (Nat.le_refl _) (fun h v h1 s1 s2 e => by simp only [fX12_pick, dnB_eval, g_0_4 s1, v_259 s1, e, v_0 s2, tally_c s2, dnP]) (fun h v h1 s1 s2 e => by simp only [fX13_pick, dnB_eval, v_289 s1, e, v_289 s2, said_r s2, dnP]) (step_pick hB g p q)
