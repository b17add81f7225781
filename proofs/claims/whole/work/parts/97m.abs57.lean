/-! ABS 57: paint -/
theorem put_RE {B : Nat} {h0 h : dnH} {X : List Nat} {A : Ab} {r I s : Nat} {v : Int64} (hB : 16 ≤ B) (c : RS h0 X h A) (hr : r < 31) (hl : live X A r) (hrw : rwOk B (A.2.2.1 r)) (hI : I < 12) (hs : s < 12) : ∃ h1 h2, fX13_makes (some 289) (nI s) v h = some ((), h1) ∧ RS h0 X h1 A ∧ fX13_puts (some 289) (nI r) (nI I) h1 = some (tk (A.2.2.1 r).1 s, h2) ∧ RS h0 X h2 (putA A r I s v) ∧ h2.2.1 307 = h.2.1 307 := by
  have c1 : RS h0 X (setV h (nI s) (mkN s v) (mkD s v)) A := c.setV
  have v1 := hv_set (h := h) (c := mkC s v)
  have a1 : (setV h (nI s) (mkN s v) (mkD s v)).2.1 289 12 = nI s := v1.1
  have a2 : (setV h (nI s) (mkN s v) (mkD s v)).2.2.1 289 13 = (mkC s v).2.1 := v1.2.1
  have a3 : (setV h (nI s) (mkN s v) (mkD s v)).2.2.2.1 289 14 = (mkC s v).2.2 := v1.2.2
  have m1 := makes_r c.1 hs (mkOk_all s v)
  have key := puts_r c1.1 (show r < 32 by omega) hI (c1.row hr hl).1 hrw.1 a1 hs (fun _ _ => ok_l2f _)
  have e7 : (setV h (nI s) (mkN s v) (mkD s v)).2.1 307 = h.2.1 307 := ((eqc_setV (P := fun x => x = 307) (by decide)).2.2 307 rfl).1
  unfold putA
  cases ht : tk (A.2.2.1 r).1 s
  · rw [ht] at key
    exact ⟨_, _, m1, c1, key, by rw [if_neg (by decide)]; exact c1, e7⟩
  · rw [ht, if_pos rfl, a2, a3] at key
    obtain ⟨k1, k2⟩ := cvt_r (c := mkC s v) hrw.1 hs ht (valOk_mkC hB hs v)
    have k1 : (cvt (A.2.2.1 r).1 (mkC s v)).2.1 = cvNr (A.2.2.1 r).1 s (mkC s v).2.1 := k1
    have k2 : (cvt (A.2.2.1 r).1 (mkC s v)).2.2 = cvRr (A.2.2.1 r).1 s (mkC s v).2.1 (mkC s v).2.2 := k2
    rw [← k1, ← k2] at key
    refine ⟨_, _, m1, c1, key, by rw [if_pos rfl]; exact c1.setV.cell (x := cvt (A.2.2.1 r).1 (mkC s v)) hr hl hI, ?_⟩
    rw [← e7]
    exact (((eqc_setV (P := fun x => x = 307) (by decide)).tr (eqc_wrR (P := fun x => x = 307) (by decide) (by decide) (by decide))).2.2 307 rfl).1
theorem acc_C {B : Nat} {h0 h : dnH} {A : Ab} {r I s : Nat} {v : Int64} (hB : 16 ≤ B) (c : CS h0 sp0 [] h A) (hq : RwH h 275 (setC (newR 8 1) 0 (mkC s v))) (hr : r < 31) (hl : live [] A r) (hrw : rwOk B (A.2.2.1 r)) (hI : I < 12) (hs : s < 12) : ∃ h2, fX5_accept (some (5 + 4 * r)) (nI I) (some 275) 0 h = some (tk (A.2.2.1 r).1 s, h2) ∧ CS h0 sp0 [] h2 (putA A r I s v) ∧ RwH h2 275 (setC (newR 8 1) 0 (mkC s v)) ∧ EqR (5 + 4 * r) h h2 := by
  obtain ⟨h2, b1, b2, b3⟩ := accept_A (B := B) (i := I) (j := 0) (row1 c.1 hr) (rw275 c.1) (c.row hr hl) hq hI (by decide) hrw.1 (hrw.2.2 I hI) hs (valOk_mkC hB hs v) (fun e => by omega)
  refine ⟨h2, b1, ?_, b2.row (by omega) hq, b2⟩
  unfold putA
  have b3 : RwH h2 (5 + 4 * r) (if tk (A.2.2.1 r).1 s = true then setC (A.2.2.1 r) I (cvt (A.2.2.1 r).1 (mkC s v)) else A.2.2.1 r) := b3
  split
  · rename_i ht
    rw [if_pos ht] at b3
    exact c.setRow hr (fun m hm => .inr hm) b2 b3
  · rename_i ht
    rw [if_neg ht] at b3
    have := c.setRow (Y := []) hr (fun m hm => .inr hm) b2 b3
    rw [setR_self] at this
    exact this
def ptd (A : Ab) (s : Nat) (v : Int64) (T : Nat → Nat → Bool) : Ab := (A.1, A.2.1, fun n => ((A.2.2.1 n).1, (A.2.2.1 n).2.1, fun i => if (T n i && tk (A.2.2.1 n).1 s) = true then cvt (A.2.2.1 n).1 (mkC s v) else (A.2.2.1 n).2.2 i), A.2.2.2)
theorem ptd_0 {A : Ab} {s : Nat} {v : Int64} : ptd A s v (fun _ _ => false) = A := rfl
theorem ptd_put {A : Ab} {s r I : Nat} {v : Int64} {T : Nat → Nat → Bool} : putA (ptd A s v T) r I s v = ptd A s v (fun n i => T n i || (decide (n = r) && decide (i = I))) := by
  have key : ∀ n, (putA (ptd A s v T) r I s v).2.2.1 n = (ptd A s v (fun n i => T n i || (decide (n = r) && decide (i = I)))).2.2.1 n := fun n => by
    unfold putA
    have ek : ((ptd A s v T).2.2.1 r).1 = (A.2.2.1 r).1 := rfl
    rw [ek]
    by_cases q : n = r
    · subst q
      by_cases ht : tk (A.2.2.1 n).1 s = true
      · rw [if_pos ht, setR_at]
        refine rw_ext rfl rfl (fun i => ?_)
        show (if i = I then cvt (A.2.2.1 n).1 (mkC s v) else if (T n i && tk (A.2.2.1 n).1 s) = true then _ else _) = if ((T n i || (decide (n = n) && decide (i = I))) && tk (A.2.2.1 n).1 s) = true then _ else _
        rw [ht]
        by_cases qi : i = I
        · simp [qi]
        · simp [qi]
      · rw [if_neg ht]
        refine rw_ext rfl rfl (fun i => ?_)
        show (if (T n i && tk (A.2.2.1 n).1 s) = true then _ else _) = if ((T n i || (decide (n = n) && decide (i = I))) && tk (A.2.2.1 n).1 s) = true then _ else _
        simp [ht]
    · have e : (if tk (A.2.2.1 r).1 s = true then setR (ptd A s v T) r (setC ((ptd A s v T).2.2.1 r) I (cvt (A.2.2.1 r).1 (mkC s v))) else ptd A s v T).2.2.1 n = (ptd A s v T).2.2.1 n := by
        split
        · rw [setR_ne q]
        · rfl
      rw [e]
      refine rw_ext rfl rfl (fun i => ?_)
      show (if (T n i && tk (A.2.2.1 n).1 s) = true then _ else _) = if ((T n i || (decide (n = r) && decide (i = I))) && tk (A.2.2.1 n).1 s) = true then _ else _
      simp [q]
  have e0 : ∀ X : Ab, X = (X.1, X.2.1, X.2.2.1, X.2.2.2) := fun X => rfl
  rw [e0 (putA (ptd A s v T) r I s v), funext key]
  unfold putA
  split <;> rfl
theorem ptd_wf {B : Nat} {A : Ab} {s : Nat} {v : Int64} {T : Nat → Nat → Bool} (hB : 16 ≤ B) (w : Wf B [] A) (hs : s < 12) : Wf B [] (ptd A s v T) := by
  refine ⟨w.1, w.2.1, w.2.2.1, fun n hn hl => ?_⟩
  obtain ⟨o1, o2, o3⟩ := w.2.2.2 n hn hl
  refine ⟨o1, o2, fun i hi => ?_⟩
  show celOk B (A.2.2.1 n).1 (if (T n i && tk (A.2.2.1 n).1 s) = true then cvt (A.2.2.1 n).1 (mkC s v) else (A.2.2.1 n).2.2 i)
  split
  · rename_i h
    exact celOk_cvt hB o1 (c := mkC s v) hs (Bool.and_eq_true_iff.mp h).2 (valOk_mkC hB hs v)
  · exact o3 i hi
def tlC (R : Nat → Nat) (L : Nat → Nat) : Nat → Nat → Nat → Bool
  | 0 => fun _ _ => false
  | t + 1 => fun n i => tlC R L t n i || (decide (n = R (L t)) && decide (i = L t % 12))
def tlR (R : Nat → Nat) (S : Nat → Bool) : Nat → Nat → Nat → Bool
  | 0 => fun _ _ => false
  | x + 1 => fun n i => tlR R S x n i || (S x && (decide (n = R x) && decide (i = x % 12)))
theorem tlC_iff {R L : Nat → Nat} {n i : Nat} : ∀ t, tlC R L t n i = true ↔ ∃ j, j < t ∧ n = R (L j) ∧ i = L j % 12 := by
  intro t
  induction t with
  | zero => exact ⟨fun h => (by cases h), fun ⟨j, hj, _⟩ => by omega⟩
  | succ t ih =>
    show (tlC R L t n i || (decide (n = R (L t)) && decide (i = L t % 12))) = true ↔ _
    rw [Bool.or_eq_true_iff, ih, Bool.and_eq_true_iff, decide_eq_true_iff, decide_eq_true_iff]
    constructor
    · rintro (⟨j, hj, h⟩ | h)
      · exact ⟨j, by omega, h⟩
      · exact ⟨t, by omega, h⟩
    · rintro ⟨j, hj, h⟩
      by_cases q : j = t
      · subst q; exact .inr h
      · exact .inl ⟨j, by omega, h⟩
theorem tlR_iff {R : Nat → Nat} {S : Nat → Bool} {n i : Nat} : ∀ x, tlR R S x n i = true ↔ ∃ j, j < x ∧ S j = true ∧ n = R j ∧ i = j % 12 := by
  intro x
  induction x with
  | zero => exact ⟨fun h => (by cases h), fun ⟨j, hj, _⟩ => by omega⟩
  | succ x ih =>
    show (tlR R S x n i || (S x && (decide (n = R x) && decide (i = x % 12)))) = true ↔ _
    rw [Bool.or_eq_true_iff, ih, Bool.and_eq_true_iff, Bool.and_eq_true_iff, decide_eq_true_iff, decide_eq_true_iff]
    constructor
    · rintro (⟨j, hj, h⟩ | h)
      · exact ⟨j, by omega, h⟩
      · exact ⟨x, by omega, h⟩
    · rintro ⟨j, hj, h⟩
      by_cases q : j = x
      · subst q; exact .inr h
      · exact .inl ⟨j, by omega, h⟩
theorem tl_eq {R L : Nat → Nat} {S : Nat → Bool} {n : Nat} (l : Lst S n L) : tlC R L n = tlR R S 72 := by
  funext a i
  rw [Bool.eq_iff_iff, tlC_iff, tlR_iff]
  constructor
  · rintro ⟨j, hj, h1, h2⟩
    exact ⟨L j, (l.1 j hj).1, (l.1 j hj).2, h1, h2⟩
  · rintro ⟨x, hx, hS, h1, h2⟩
    obtain ⟨j, hj, e⟩ := l.2.1 x hS
    exact ⟨j, hj, by rw [e]; exact h1, by rw [e]; exact h2⟩
theorem tlR_n {R : Nat → Nat} {S : Nat → Bool} {x : Nat} (h : S x = false) : tlR R S (x + 1) = tlR R S x := by
  funext n i
  show (tlR R S x n i || (S x && _)) = _
  rw [h, Bool.false_and, Bool.or_false]
theorem tlR_y {R : Nat → Nat} {S : Nat → Bool} {x : Nat} (h : S x = true) : tlR R S (x + 1) = fun n i => tlR R S x n i || (decide (n = R x) && decide (i = x % 12)) := by
  funext n i
  show (tlR R S x n i || (S x && _)) = _
  rw [h, Bool.true_and]
theorem at_place {B : Nat} {A : Ab} (w : Wf B [] A) {G m q r : Nat} (hG : G < 4) (hm : m ≤ 6) (e1 : A.1 G = nI m) (hq : q < m) (hr : r < 31) (e3 : A.2.1 (6 * G + q) = nI r) : live [] A r ∧ rwOk B (A.2.2.1 r) ∧ (∀ h0 S Y h, CS h0 S Y h A → fX9_rowAt (some 1) (nI G) (nI q) h = some (some (5 + 4 * r), h)) ∧ ∀ q0 Y k, RS q0 Y k A → fX13_held (some 289) (nI G) (nI q) k = some (nI r, k) := by
  rcases gv_A w hG hm e1 hq with ⟨e, -, -⟩ | ⟨r2, hr2, e, e4, l, o, kc, kr⟩
  · have := sg_of hq hr e3
    unfold sg at this
    rw [if_pos hq, e] at this
    cases this
  · rw [e3] at e4
    have := (nI_eq (by omega) (by omega)).mp e4
    subst this
    exact ⟨l [], o, kc, fun q0 Y k c => (kr q0 Y k c).2⟩
theorem ce_row {B : Nat} {A : Ab} (w : Wf B [] A) {G m x : Nat} (hG : G < 4) (hm : m ≤ 6) (e1 : A.1 G = nI m) (ho : (ceO (sg A G m) x).isSome = true) : ∃ r, r < 31 ∧ x / 12 < m ∧ A.2.1 (6 * G + x / 12) = nI r := by
  by_cases hx : x / 12 < m
  · rcases gv_A w hG hm e1 hx with ⟨e, -, -⟩ | ⟨r, hr, e, e4, -⟩
    · have : sg A G m (x / 12) = none := by unfold sg; rw [if_pos hx, e]
      rw [ce_n this] at ho
      cases ho
    · exact ⟨r, hr, hx, e4⟩
  · rw [ce_n (show sg A G m (x / 12) = none from if_neg hx)] at ho
    cases ho
theorem step_paint {B : Nat} (hB : 16 ≤ B) (g p i sr : Int32) (v : Int64) : Step B B (fX4_paintRegion (some 274) g p i sr v) (fX13_paintDeed (some 289) g p i sr v) := by
  intro A w
  cases hg : inB g 0 3
  · exact step_ro (-1) w (fun h0 h c => by simp only [fX4_paintRegion, hg, dnB_eval, c_isGrid, c_isKind, c_isSort, c_isPlain, r_isGrid, r_isKind, r_isSort, r_isPlain, r_in, dnP, Bool.false_eq_true, if_false, if_true]) (fun q0 q r => by simp only [fX13_paintDeed, hg, dnB_eval, c_isGrid, c_isKind, c_isSort, c_isPlain, r_isGrid, r_isKind, r_isSort, r_isPlain, r_in, dnP, Bool.false_eq_true, if_false, if_true])
  cases hk : inB sr 0 11
  · exact step_ro (-1) w (fun h0 h c => by simp only [fX4_paintRegion, hg, hk, dnB_eval, c_isGrid, c_isKind, c_isSort, c_isPlain, r_isGrid, r_isKind, r_isSort, r_isPlain, r_in, dnP, Bool.false_eq_true, if_false, if_true]) (fun q0 q r => by simp only [fX13_paintDeed, hg, hk, dnB_eval, c_isGrid, c_isKind, c_isSort, c_isPlain, r_isGrid, r_isKind, r_isSort, r_isPlain, r_in, dnP, Bool.false_eq_true, if_false, if_true])
  obtain ⟨sn, hsn, rfl⟩ := inB_of (n := 11) (by decide) hk
  have hsn : sn < 12 := by omega
  rcases lookC w g p i with ⟨f, fn, f1, f2, f3⟩ | ⟨G, q, m, r, hG, hq, hm, hr, rfl, rfl, e1, e3, -, hl, o, kc, kr, hh⟩
  · exact step_ro f w (fun h0 h c => by simp only [fX4_paintRegion, hg, hk, g_274_0 c.1, sv (st1 c.1), (f2 h0 _ _ h c).1, (f2 h0 _ _ h c).2, Option.elim, dnB_eval, c_isGrid, c_isKind, c_isSort, c_isPlain, r_isGrid, r_isKind, r_isSort, r_isPlain, r_in, dnP, Bool.false_eq_true, if_false, if_true]) (fun q0 k r => by simp only [fX13_paintDeed, hg, hk, v_289 r.1, f3 hg q0 _ k r, (neg_fault fn).1, dnB_eval, c_isGrid, c_isKind, c_isSort, c_isPlain, r_isGrid, r_isKind, r_isSort, r_isPlain, r_in, dnP, Bool.false_eq_true, if_false, if_true])
  have z6 : ¬ ((-6 : Int32) = 0) := by decide
  rcases hh with ⟨nc, nr⟩ | ⟨I, hI, rfl, yc, yr⟩
  · exact step_ro (-6) w (fun h0 h c => by simp only [fX4_paintRegion, hg, hk, g_274_0 c.1, sv (st1 c.1), kc h0 _ _ h c, Option.elim, rv (row1 c.1 hr), nc h0 _ _ h c, dnB_eval, c_isGrid, c_isKind, c_isSort, c_isPlain, r_isGrid, r_isKind, r_isSort, r_isPlain, r_in, dnP, Bool.false_eq_true, if_false, if_true]) (fun q0 k r => by simp only [fX13_paintDeed, hg, hk, v_289 r.1, nr q0 _ k r, z6, dnB_eval, c_isGrid, c_isKind, c_isSort, c_isPlain, r_isGrid, r_isKind, r_isSort, r_isPlain, r_in, dnP, Bool.false_eq_true, if_false, if_true])
  have o12 := o.2.1
  obtain ⟨s, es⟩ : ∃ s, s = 12 * q + I := ⟨_, rfl⟩
  have eq : q = s / 12 := by omega
  have eI : I = s % 12 := by omega
  have ho : (ceO (sg A G m) s).isSome = true := by
    rw [ce_y (r := r) (by rw [← eq]; exact sg_of hq hr e3), if_pos (by rw [← eI]; exact hI)]
    rfl
  obtain ⟨F, hF⟩ : ∃ F : Nat → Bool, ∀ c, F c = true ↔ Cl (nbr (sg A G m)) s c := by
    classical
    exact ⟨fun c => decide (Cl (nbr (sg A G m)) s c), fun c => decide_eq_true_iff⟩
  have Fo : ∀ c, F c = true → (ceO (sg A G m) c).isSome = true := fun c hc => (hF c).mp hc (fun x => (ceO (sg A G m) x).isSome = true) ho (fun a b _ hab => (nbr_some hab).2)
  have s72 := ce_lt hm ho
  have sI : 12 * nI (s / 12) + nI (s % 12) = nI s := by rw [at_r, show 12 * (s / 12) + s % 12 = s by omega]
  subst eq eI
  obtain ⟨R, hR⟩ : ∃ R : Nat → Nat, ∀ x, R x = (A.2.1 (6 * G + x / 12)).toNatClampNeg := ⟨fun x => _, fun x => rfl⟩
  have rf : ∀ x, F x = true → R x < 31 ∧ x / 12 < m ∧ A.2.1 (6 * G + x / 12) = nI (R x) := fun x hx => by
    obtain ⟨r2, hr2, hx2, e⟩ := ce_row w hG hm e1 (Fo x hx)
    have : R x = r2 := by rw [hR, e, nI_clamp (by omega)]
    rw [this]
    exact ⟨hr2, hx2, e⟩
  obtain ⟨Kf, hKf⟩ : ∃ Kf : Nat → Bool, ∀ x, Kf x = tk (A.2.2.1 (R x)).1 sn := ⟨fun x => _, fun x => rfl⟩
  refine ⟨nI (cN (fun c => F c && Kf c) 72), ptd A sn v (tlR R F 72), ptd_wf hB w hsn, fun h0 h c => ?_, fun q0 k r => ?_⟩
  · obtain ⟨a1, c1, a3⟩ := fill280 c
    obtain ⟨h2, S, n, L, b1, c2, k2, l2, hS⟩ := spread_c w hG hm e1 clo_0 rfl ho c1 a3
    have eS := eqF hF hS
    subst eS
    have nc := lst_len l2
    have n72 : n ≤ 72 := by rw [nc]; exact cN_le S 72
    obtain ⟨h3, d1, d2, d3⟩ := become_A (rw275 c2.1) hsn v
    have c3 := c2.hand (by decide) (by decide) d2
    have m4 : h3.2.1 274 4 = nI n := by rw [(d2.1.2.2 274 (by omega)).1]; exact k2.2.2
    have m9 : ∀ i, i < n → h3.2.1 279 i = nI (L i) := fun i hi => by rw [(d2.1.2.2 279 (by omega)).1]; exact k2.2.1 i hi
    rw [← tl_eq l2, ← l2.2.2 Kf]
    have KK := it_inv (f := fX4_paintRegion_b87 (some 274) (nI G)) (Q := fun u k => u = nI (cN (fun j => Kf (L j)) n) ∧ CS h0 sp0 [] k (ptd A sn v (tlC R L n))) (fun t u k => u = (nI (cN (fun j => Kf (L j)) t), nI t) ∧ CS h0 sp0 [] k (ptd A sn v (tlC R L t)) ∧ RwH k 275 (setC (newR 8 1) 0 (mkC sn v)) ∧ k.2.1 274 4 = nI n ∧ ∀ i, i < n → k.2.1 279 i = nI (L i)) n 1000 0 (by omega) (by omega) ?_ ?_ (nI 0, nI 0) h3 ⟨rfl, c3, d3, m4, m9⟩
    · obtain ⟨u, h4, x1, rfl, x2⟩ := KK
      have x1 : dnIt 1000 (fX4_paintRegion_b87 (some 274) (nI G)) (0, 0) h3 = some (nI (cN (fun j => Kf (L j)) n), h4) := x1
      refine ⟨h4, ?_, x2⟩
      simp only [fX4_paintRegion, hg, hk, g_274_0 c.1, sv (st1 c.1), kc h0 _ _ h c, Option.elim, rv (row1 c.1 hr), yc h0 _ _ h c, g_274_5 c.1, a1, v_274 c1.1, b1, g_274_2 c2.1, rv (rw275 c2.1), d1, x1, dnB_eval, c_isGrid, c_isKind, c_isSort, c_isPlain, r_isGrid, r_isKind, r_isSort, r_isPlain, r_in, dnP, Bool.false_eq_true, if_false, if_true]
    · rintro t u k ht ⟨rfl, ck, hk5, hk4, hk9⟩
      left
      obtain ⟨x72, xS⟩ := l2.1 t ht
      obtain ⟨r31, xm, ex⟩ := rf _ xS
      have wt : Wf B [] (ptd A sn v (tlC R L t)) := ptd_wf hB w hsn
      obtain ⟨p1, p2, p3, -⟩ := at_place wt hG hm (show (ptd A sn v (tlC R L t)).1 G = nI m from e1) xm r31 (show (ptd A sn v (tlC R L t)).2.1 (6 * G + L t / 12) = nI (R (L t)) from ex)
      have p3 := p3 h0 _ _ k ck
      obtain ⟨k2', y1, y2, y3, y4⟩ := acc_C (I := L t % 12) hB ck hk5 r31 p1 p2 (by omega) hsn
      have y1 : fX5_accept (some (5 + 4 * R (L t))) (nI (L t % 12)) (some 275) 0 k = some (Kf (L t), k2') := by rw [hKf]; exact y1
      rw [ptd_put] at y2
      have y2 : CS h0 sp0 [] k2' (ptd A sn v (tlC R L (t + 1))) := y2
      have hc : ¬ (nI n ≤ nI t) := fun hc => by have := (nI_leI (a := n) (b := t) (by omega) (by omega)).mp hc; omega
      have rt : dnAI (some 279) 100 (nI t) k = some (nI (L t), k) := by
        rw [a_279 ck.1, dnIn_nI (show t < 72 by omega) (by decide), nI_clamp (by omega), hk9 t ht]
        rfl
      have ec : nI (cN (fun j => Kf (L j)) t) + dnZ (Kf (L t)) = nI (cN (fun j => Kf (L j)) (t + 1)) := nI_z
      refine ⟨(nI (cN (fun j => Kf (L j)) (t + 1)), nI (t + 1)), k2', ?_, rfl, y2, y3, by rw [(y4.1.2.2 274 (by omega)).1]; exact hk4, fun i hi => by rw [(y4.1.2.2 279 (by omega)).1]; exact hk9 i hi⟩
      rw [← ec]
      simp only [fX4_paintRegion_b87, fX4_paintRegion_j151, fX4_paintRegion_j150, dnB_eval, g_274_4 ck.1, hk4, hc, if_false, g_274_0 ck.1, g_274_3 ck.1, rt, dnNz, n12, dv12 (show L t < 100 by omega), md12 (show L t < 100 by omega), sv (st1 ck.1), p3, Option.elim, g_274_2 ck.1, rv (row1 ck.1 r31), y1, dnP, nI_1]
      cases Kf (L t) <;> rfl
    · rintro u k ⟨rfl, ck, hk5, hk4, hk9⟩
      exact ⟨_, k, by simp only [fX4_paintRegion_b87, dnB_eval, g_274_4 ck.1, hk4, Int32.le_refl, if_true, dnP], rfl, ck⟩
  · obtain ⟨h1, a1, c1, k1⟩ := noMarks_r r
    obtain ⟨h2, T, b1, c2, k2, hT⟩ := grows_r (K := 1) (ol := fun _ => 0) (M := fun _ => false) w hG hm e1 (by decide) (fun _ _ => by omega) (fun _ _ => ⟨fun _ => rfl, fun _ => rfl⟩) clo_0 rfl ho c1 k1
    have eT := eqF hF hT
    subst eT
    have b1 : fX13_grows (some 289) (nI G) (nI s) 1 h1 = some (nI (cN T 72), h2) := b1
    have KK := it_inv (f := fX13_paintDeed_b57 (some 289) (nI G) (nI sn) v) (Q := fun u k => u = nI (cN (fun c => T c && Kf c) 72) ∧ RS q0 [] k (ptd A sn v (tlR R T 72))) (fun x u k => u = (nI (cN (fun c => T c && Kf c) x), nI x) ∧ RS q0 [] k (ptd A sn v (tlR R T x)) ∧ Mk k (lbl (fun _ => 0) T 1)) 72 1000 0 (by omega) (by omega) ?_ ?_ (nI 0, nI 0) h2 ⟨rfl, c2, k2⟩
    · obtain ⟨u, h4, x1, rfl, x2⟩ := KK
      have x1 : dnIt 1000 (fX13_paintDeed_b57 (some 289) (nI G) (nI sn) v) (0, 0) h2 = some (nI (cN (fun c => T c && Kf c) 72), h4) := x1
      exact ⟨h4, _, by simp only [fX13_paintDeed, hg, hk, v_289 r.1, yr q0 _ k r, a1, v_289 c1.1, sI, b1, x1, dnB_eval, c_isGrid, c_isKind, c_isSort, c_isPlain, r_isGrid, r_isKind, r_isSort, r_isPlain, r_in, dnP, Bool.false_eq_true, if_false, if_true], x2⟩
    · rintro x u k hx ⟨rfl, ck, mk⟩
      left
      have hc : ¬ ((72 : Int32) ≤ nI x) := fun hc => by have := (nI_leI (a := 72) (b := x) (by omega) (by omega)).mp hc; omega
      have mx := mk_A ck mk hx
      cases hT : T x with
      | false =>
        have ex : lbl (fun _ => 0) T 1 x = 0 := by unfold lbl; rw [hT]; rfl
        rw [ex] at mx
        have o1 : ¬ (nI 0 = 1) := by decide
        have ec : cN (fun c => T c && Kf c) (x + 1) = cN (fun c => T c && Kf c) x := by
          show cN (fun c => T c && Kf c) x + (if (T x && Kf x) = true then 1 else 0) = _
          rw [hT]; rfl
        refine ⟨(nI (cN (fun c => T c && Kf c) x), nI (x + 1)), k, ?_, by rw [ec], by rw [tlR_n hT]; exact ck, mk⟩
        simp only [fX13_paintDeed_b57, fX13_paintDeed_j115, hc, if_false, dnB_eval, g_289_26 ck.1, mx, o1, not_false_eq_true, if_true, dnP, nI_1]
      | true =>
        have ex : lbl (fun _ => 0) T 1 x = 1 := by unfold lbl; rw [hT]; rfl
        rw [ex] at mx
        have o1 : (nI 1 = 1) := by decide
        obtain ⟨r31, xm, ea⟩ := rf x hT
        have wt : Wf B [] (ptd A sn v (tlR R T x)) := ptd_wf hB w hsn
        obtain ⟨p1, p2, -, p4⟩ := at_place wt hG hm (show (ptd A sn v (tlR R T x)).1 G = nI m from e1) xm r31 (show (ptd A sn v (tlR R T x)).2.1 (6 * G + x / 12) = nI (R x) from ea)
        obtain ⟨k1', k2', y1, y2, y3, y4, y5⟩ := put_RE (I := x % 12) (v := v) hB ck r31 p1 p2 (by omega) hsn
        have y3 : fX13_puts (some 289) (nI (R x)) (nI (x % 12)) k1' = some (Kf x, k2') := by rw [hKf]; exact y3
        rw [ptd_put] at y4
        have y4 : RS q0 [] k2' (ptd A sn v (tlR R T (x + 1))) := by rw [tlR_y hT]; exact y4
        have ec : nI (cN (fun c => T c && Kf c) x) + dnZ (Kf x) = nI (cN (fun c => T c && Kf c) (x + 1)) := by
          rw [nI_z]
          show _ = nI (cN (fun c => T c && Kf c) x + (if (T x && Kf x) = true then 1 else 0))
          rw [hT, Bool.true_and]
        refine ⟨(nI (cN (fun c => T c && Kf c) (x + 1)), nI (x + 1)), k2', ?_, rfl, y4, fun c hc => by rw [y5]; exact mk c hc⟩
        rw [← ec]
        simp only [fX13_paintDeed_b57, fX13_paintDeed_j115, fX13_paintDeed_j112, hc, if_false, dnB_eval, g_289_26 ck.1, mx, o1, not_true_eq_false, v_289 ck.1, y1, dnNz, n12, dv12 (show x < 100 by omega), md12 (show x < 100 by omega), v_289 y2.1, p4 q0 _ k1' y2, y3, dnP, nI_1]
        cases Kf x <;> rfl
    · rintro u k ⟨rfl, ck, mk⟩
      have hc : ((72 : Int32) ≤ nI 72) := by decide
      exact ⟨_, k, by simp only [fX13_paintDeed_b57, hc, if_true, dnP], rfl, ck⟩
theorem call_paint {B : Nat} (hB : 16 ≤ B) (g p i sr : Int32) (v : Int64) : Call B B (fX12_paint (some 0) g p i sr v) (fX13_paint (some 289) g p i sr v) :=
  callA (Nat.le_refl _) (fun h v h1 s1 s2 e => by simp only [fX12_paint, dnB_eval, g_0_8 s1, v_274 s1, e, v_0 s2, tally_c s2, dnP]) (fun h v h1 s1 s2 e => by simp only [fX13_paint, dnB_eval, v_289 s1, e, v_289 s2, said_r s2, dnP]) (step_paint hB g p i sr v)
