/-! ABS 32: count -/
def sI (f : Nat → Int32) : Nat → Int32
  | 0 => 0
  | n + 1 => sI f n + f n
theorem sI_congr {f g : Nat → Int32} : ∀ n, (∀ k, k < n → f k = g k) → sI f n = sI g n := by
  intro n
  induction n with
  | zero => exact fun _ => rfl
  | succ n ih =>
    intro h
    show sI f n + f n = sI g n + g n
    rw [ih (fun k hk => h k (by omega)), h n (by omega)]
theorem sI_zero : ∀ n, sI (fun _ => 0) n = 0 := by
  intro n
  induction n with
  | zero => rfl
  | succ n ih =>
    show sI (fun _ => 0) n + 0 = 0
    rw [ih]
    rfl
theorem sI_add (f g : Nat → Int32) : ∀ n, sI (fun k => f k + g k) n = sI f n + sI g n := by
  intro n
  induction n with
  | zero => rfl
  | succ n ih =>
    show sI (fun k => f k + g k) n + (f n + g n) = (sI f n + f n) + (sI g n + g n)
    rw [ih, Int32.add_assoc, Int32.add_assoc, ← Int32.add_assoc (sI g n) (f n) (g n), Int32.add_comm (sI g n) (f n), Int32.add_assoc (f n) (sI g n) (g n)]
theorem sI_swap (c : Nat → Nat → Int32) (m : Nat) : ∀ n, sI (fun k => sI (fun r => c k r) m) n = sI (fun r => sI (fun k => c k r) n) m := by
  intro n
  induction n with
  | zero =>
    show 0 = sI (fun _ => 0) m
    rw [sI_zero]
  | succ n ih =>
    show sI (fun k => sI (fun r => c k r) m) n + sI (fun r => c n r) m = sI (fun r => sI (fun k => c k r) n + c n r) m
    rw [ih, sI_add]
theorem sI_one (a : Nat) (v : Int32) : ∀ n, sI (fun k => if a = k then v else 0) n = if a < n then v else 0 := by
  intro n
  induction n with
  | zero => rfl
  | succ n ih =>
    show sI (fun k => if a = k then v else 0) n + (if a = n then v else 0) = _
    rw [ih]
    by_cases q : a < n
    · rw [if_pos q, if_neg (by omega), if_pos (by omega)]
      exact Int32.add_zero _
    · rw [if_neg q]
      by_cases q2 : a = n
      · rw [if_pos q2, if_pos (by omega)]
        exact Int32.zero_add _
      · rw [if_neg q2, if_neg (by omega)]
        rfl
theorem sI_tail {f : Nat → Int32} {a : Nat} : ∀ d, (∀ k, a ≤ k → k < a + d → f k = 0) → sI f (a + d) = sI f a := by
  intro d
  induction d with
  | zero => exact fun _ => rfl
  | succ d ih =>
    intro h
    show sI f (a + d) + f (a + d) = _
    rw [ih (fun k h1 h2 => h k h1 (by omega)), h (a + d) (by omega) (by omega)]
    exact Int32.add_zero _
/-- rows counted at their first places, and rows counted by their numbers -/
theorem count_rows {B : Nat} {A : Ab} (w : Wf B [] A) (v : Nat → Int32) : sI (fun k => match gr A k with | none => 0 | some r => if fh A r = k then v r else 0) 24 = sI (fun r => if fh A r < 24 then v r else 0) 32 := by
  have e1 : sI (fun k => match gr A k with | none => 0 | some r => if fh A r = k then v r else 0) 24 = sI (fun k => sI (fun r => if fh A r = k then v r else 0) 32) 24 := by
    refine sI_congr 24 (fun k hk => ?_)
    cases q : gr A k with
    | none =>
      show (0 : Int32) = sI (fun r => if fh A r = k then v r else 0) 32
      have z : sI (fun r => if fh A r = k then v r else 0) 32 = sI (fun _ => 0) 32 := by
        refine sI_congr 32 (fun r hr => if_neg (fun e => ?_))
        have hl := fh_lt.mp (show fh A r < 24 by omega)
        obtain ⟨-, f2, -⟩ := fh_live hl
        rw [e] at f2
        unfold gr at q
        rw [f2, if_neg (nI_pos (by omega))] at q
        cases q
      rw [z, sI_zero]
    | some t =>
      show (if fh A t = k then v t else 0) = _
      have kt : ∀ r, r < 32 → fh A r = k → r = t := fun r hr e => by
        have hl := fh_lt.mp (show fh A r < 24 by omega)
        obtain ⟨-, f2, -⟩ := fh_live hl
        rw [e] at f2
        unfold gr at q
        rw [f2, if_neg (nI_pos (by omega)), nI_clamp (by omega)] at q
        cases q
        rfl
      have t32 : t < 32 := by
        unfold gr at q
        split at q
        · cases q
        · rename_i hn
          cases q
          rcases w.2.1 k hk with e | e | e | ⟨n, hn2, e⟩
          · rw [e] at hn; exact absurd (by decide) hn
          · rw [e] at hn; exact absurd (by decide) hn
          · rw [e] at hn; exact absurd (by decide) hn
          · rw [e, nI_clamp (by omega)]
            omega
      by_cases q2 : fh A t = k
      · have : sI (fun r => if fh A r = k then v r else 0) 32 = sI (fun r => if t = r then v t else 0) 32 := sI_congr 32 (fun r hr => by
          by_cases q3 : t = r
          · rw [if_pos q3, ← q3, if_pos q2]
          · rw [if_neg q3, if_neg (fun e => q3 (kt r hr e).symm)])
        rw [this, sI_one, if_pos t32, if_pos q2]
      · have : sI (fun r => if fh A r = k then v r else 0) 32 = sI (fun _ => 0) 32 := sI_congr 32 (fun r hr => by
          rw [if_neg (fun e => q2 (by rw [← kt r hr e]; exact e))])
        rw [this, sI_zero, if_neg q2]
  rw [e1, sI_swap]
  refine sI_congr 32 (fun r hr => ?_)
  exact sI_one (fh A r) (v r) 24
/-- a sum over the places of all grids, in the class -/
theorem grids_c {B : Nat} {A : Ab} (w : Wf B [] A) {h0 h : dnH} (c : CS h0 sp0 [] h A) (x : Int32) (f : Nat → Int32) (hz : ∀ g, g < 4 → ∀ p, p < 6 → pln A g ≤ p → f (6 * g + p) = 0) (ha : ∀ g, g < 4 → ∀ p, p < pln A g → fX9_amountAt (some 1) x (nI g) (nI p) h = some (f (6 * g + p), h)) : dnIt 1000 (fX9_amountOf_b13 (some 1) x) (0, 0) h = some (sI f 24, h) := by
  refine dnIt_run (f := fX9_amountOf_b13 (some 1) x) (q := sI f 24) (hq := h) 4 1000 (fun g => ((sI f (6 * g), nI g), h)) (by decide) ?_ ?_
  · intro g hg
    have hc : ¬ ((4 : Int32) ≤ nI g) := fun hc => by have := (nI_leI (a := 4) (b := g) (by omega) (by omega)).mp hc; omega
    obtain ⟨p1, p2, p3, p4⟩ := pln_A w hg
    have inn : dnIt 1000 (fX9_amountOf_b21 (some 1) x (nI g)) (sI f (6 * g), 0) h = some (sI f (6 * g + pln A g), h) := by
      refine dnIt_run (f := fX9_amountOf_b21 (some 1) x (nI g)) (q := sI f (6 * g + pln A g)) (hq := h) (pln A g) 1000 (fun p => ((sI f (6 * g + p), nI p), h)) (by omega) ?_ ?_
      · intro p hp
        simp only [fX9_amountOf_b21, dnB_eval, sg_0 (st1 c.1), plc_A c hg, p4 p hp, if_false, sv (st1 c.1), ha g hg p hp, dnP, nI_1]
        rfl
      · simp only [fX9_amountOf_b21, dnB_eval, sg_0 (st1 c.1), plc_A c hg, p3, if_true, dnP]
    have tl : sI f (6 * (g + 1)) = sI f (6 * g + pln A g) := by
      have := sI_tail (f := f) (a := 6 * g + pln A g) (6 - pln A g) (fun k h1 h2 => by
        have := hz g hg (k - 6 * g) (by omega) (by omega)
        rw [show 6 * g + (k - 6 * g) = k by omega] at this
        exact this)
      rw [show 6 * g + pln A g + (6 - pln A g) = 6 * (g + 1) by omega] at this
      exact this
    simp only [fX9_amountOf_b13, hc, if_false, dnB_eval, inn, dnP, nI_1]
    rw [tl]
  · simp only [fX9_amountOf_b13, show (4 : Int32) ≤ nI 4 by decide, if_true, dnP]
theorem grids_r {B : Nat} {A : Ab} (w : Wf B [] A) {h0 h : dnH} (c : RS h0 [] h A) (lo hi : Int32) (f : Nat → Int32) (hz : ∀ g, g < 4 → ∀ p, p < 6 → pln A g ≤ p → f (6 * g + p) = 0) (ha : ∀ g, g < 4 → ∀ p, p < pln A g → dnZ (inB (rc (A.2.1 (6 * g + p))) lo hi) = f (6 * g + p)) : fX13_placesWith (some 289) lo hi h = some (sI f 24, h) := by
  have key : dnIt 1000 (fX13_placesWith_b5 (some 289) lo hi) (0, 0) h = some (sI f 24, h) := by
    refine dnIt_run (f := fX13_placesWith_b5 (some 289) lo hi) (q := sI f 24) (hq := h) 4 1000 (fun g => ((sI f (6 * g), nI g), h)) (by decide) ?_ ?_
    · intro g hg
      have hc : ¬ ((4 : Int32) ≤ nI g) := fun hc => by have := (nI_leI (a := 4) (b := g) (by omega) (by omega)).mp hc; omega
      obtain ⟨p1, p2, p3, p4⟩ := pln_A w hg
      have inn : dnIt 1000 (fX13_placesWith_b14 (some 289) lo hi (nI g)) (sI f (6 * g), 0) h = some (sI f (6 * g + pln A g), h) := by
        refine dnIt_run (f := fX13_placesWith_b14 (some 289) lo hi (nI g)) (q := sI f (6 * g + pln A g)) (hq := h) (pln A g) 1000 (fun p => ((sI f (6 * g + p), nI p), h)) (by omega) ?_ ?_
        · intro p hp
          have hd : fX13_held (some 289) (nI g) (nI p) h = some (rc (A.2.1 (6 * g + p)), h) := by rw [held_r c.1 hg (by omega), c.hd (by omega)]
          show _ = some (Sum.inl (sI f (6 * g + p) + f (6 * g + p), nI (p + 1)), h)
          rw [← ha g hg p hp]
          simp only [fX13_placesWith_b14, fX13_placesWith_j48, dnB_eval, g_289_4 c.1, plr_A c hg, p4 p hp, if_false, v_289 c.1, hd, r_in, dnP, nI_1]
          cases inB (rc (A.2.1 (6 * g + p))) lo hi <;> rfl
        · simp only [fX13_placesWith_b14, dnB_eval, g_289_4 c.1, plr_A c hg, p3, if_true, dnP]
      have tl : sI f (6 * (g + 1)) = sI f (6 * g + pln A g) := by
        have := sI_tail (f := f) (a := 6 * g + pln A g) (6 - pln A g) (fun k h1 h2 => by
          have := hz g hg (k - 6 * g) (by omega) (by omega)
          rw [show 6 * g + (k - 6 * g) = k by omega] at this
          exact this)
        rw [show 6 * g + pln A g + (6 - pln A g) = 6 * (g + 1) by omega] at this
        exact this
      simp only [fX13_placesWith_b5, hc, if_false, dnB_eval, inn, dnP, nI_1]
      rw [tl]
    · simp only [fX13_placesWith_b5, show (4 : Int32) ≤ nI 4 by decide, if_true, dnP]
  simp only [fX13_placesWith, dnB_eval, key, dnP]
/-- how many cells of a row hold nothing -/
def nlF (R : Rw) (i : Nat) : Bool := decide ((R.2.2 i).1 = 11)
theorem nulls_c {B : Nat} {h0 h : dnH} {A : Ab} {r : Nat} (c : CS h0 sp0 [] h A) (hr : r < 31) (hl : live [] A r) (o : rwOk B (A.2.2.1 r)) : fX9_nullsOf (some (5 + 4 * r)) h = some (aI (nlF (A.2.2.1 r)) (A.2.2.1 r).2.1, h) := by
  have N1 := o.2.1
  have rr := c.row hr hl
  have key : dnIt 1000 (fX9_nullsOf_b4 (some (5 + 4 * r))) (0, 0) h = some (aI (nlF (A.2.2.1 r)) (A.2.2.1 r).2.1, h) := by
    refine dnIt_run (f := fX9_nullsOf_b4 (some (5 + 4 * r))) (q := aI (nlF (A.2.2.1 r)) (A.2.2.1 r).2.1) (hq := h) (A.2.2.1 r).2.1 1000 (fun i => ((aI (nlF (A.2.2.1 r)) i, nI i), h)) (by omega) ?_ ?_
    · intro i hi
      have hc : ¬ (nI (A.2.2.1 r).2.1 ≤ nI i) := fun hc => by have := (nI_leI (a := (A.2.2.1 r).2.1) (b := i) (by omega) (by omega)).mp hc; omega
      have s12 := (o.2.2 i (by omega)).1
      have e11 : (nI ((A.2.2.1 r).2.2 i).1 = 11) ↔ ((A.2.2.1 r).2.2 i).1 = 11 := nI_eq (b := 11) (by omega) (by decide)
      show _ = some (Sum.inl (aI (nlF (A.2.2.1 r)) i + dnZ (decide (((A.2.2.1 r).2.2 i).1 = 11)), nI (i + 1)), h)
      simp only [fX9_nullsOf_b4, fX9_nullsOf_j29, dnB_eval, rg_i (row1 c.1 hr), rr.2.1, hc, if_false, rg_3 (row1 c.1 hr), ra_1 (row1 c.1 hr), dnIn_nI (show i < 12 by omega) (by decide), nI_clamp (show i < 2 ^ 31 by omega), if_true, (rr.2.2 i (by omega)).1, e11, dnP, nI_1]
      by_cases q : ((A.2.2.1 r).2.2 i).1 = 11 <;> simp [q, dnP]
    · simp only [fX9_nullsOf_b4, dnB_eval, rg_i (row1 c.1 hr), rr.2.1, Int32.le_refl, if_true, dnP]
  simp only [fX9_nullsOf, dnB_eval, key, dnP]
theorem nulls_r {B : Nat} {h0 h : dnH} {A : Ab} {r : Nat} (c : RS h0 [] h A) (hr : r < 31) (hl : live [] A r) (o : rwOk B (A.2.2.1 r)) : fX13_nothings (some 289) (nI r) h = some (aI (nlF (A.2.2.1 r)) (A.2.2.1 r).2.1, h) := by
  have N1 := o.2.1
  have key : dnIt 1000 (fX13_nothings_b4 (some 289) (nI r)) (0, 0) h = some (aI (nlF (A.2.2.1 r)) (A.2.2.1 r).2.1, h) := by
    refine dnIt_run (f := fX13_nothings_b4 (some 289) (nI r)) (q := aI (nlF (A.2.2.1 r)) (A.2.2.1 r).2.1) (hq := h) (A.2.2.1 r).2.1 1000 (fun i => ((aI (nlF (A.2.2.1 r)) i, nI i), h)) (by omega) ?_ ?_
    · intro i hi
      have hc : ¬ (nI (A.2.2.1 r).2.1 ≤ nI i) := fun hc => by have := (nI_leI (a := (A.2.2.1 r).2.1) (b := i) (by omega) (by omega)).mp hc; omega
      have s12 := (o.2.2 i (by omega)).1
      have e11 : (nI ((A.2.2.1 r).2.2 i).1 = 11) ↔ ((A.2.2.1 r).2.2 i).1 = 11 := nI_eq (b := 11) (by omega) (by decide)
      show _ = some (Sum.inl (aI (nlF (A.2.2.1 r)) i + dnZ (decide (((A.2.2.1 r).2.2 i).1 = 11)), nI (i + 1)), h)
      simp only [fX13_nothings_b4, fX13_nothings_j36, dnB_eval, g_289_7 c.1, len_A c hr hl, hc, if_false, g_289_9 c.1, at_r, srt_A c hr hl (show i < 12 by omega), e11, dnP, nI_1]
      by_cases q : ((A.2.2.1 r).2.2 i).1 = 11 <;> simp [q, dnP]
    · simp only [fX13_nothings_b4, dnB_eval, g_289_7 c.1, len_A c hr hl, Int32.le_refl, if_true, dnP]
  simp only [fX13_nothings, dnB_eval, key, dnP]
def amt (A : Ab) (x k : Nat) : Int32 := if x = 1 then 1 else if x = 2 then (match gr A k with | none => 0 | some _ => 1) else if x = 3 then (match gr A k with | none => 0 | some r => if fh A r = k then 1 else 0) else if x = 4 then (match gr A k with | none => 0 | some r => if fh A r = k then nI (A.2.2.1 r).2.1 else 0) else if x = 5 then (if A.2.1 k = -14 then 1 else 0) else if x = 6 then (match gr A k with | none => (if A.2.1 k = -14 then 0 else 1) | some _ => 0) else (match gr A k with | none => 0 | some r => if fh A r = k then aI (nlF (A.2.2.1 r)) (A.2.2.1 r).2.1 else 0)
def amf (A : Ab) (x k : Nat) : Int32 := if k % 6 < pln A (k / 6) then amt A x k else 0
theorem amf_in {A : Ab} {x g p : Nat} (hp : p < 6) (h : p < pln A g) : amf A x (6 * g + p) = amt A x (6 * g + p) := by
  unfold amf
  rw [show (6 * g + p) % 6 = p by omega, show (6 * g + p) / 6 = g by omega, if_pos h]
theorem amf_out {A : Ab} {x g p : Nat} (hp : p < 6) (h : pln A g ≤ p) : amf A x (6 * g + p) = 0 := by
  unfold amf
  rw [show (6 * g + p) % 6 = p by omega, show (6 * g + p) / 6 = g by omega, if_neg (by omega)]
theorem amt_c {B : Nat} {A : Ab} (w : Wf B [] A) {h0 h : dnH} (c : CS h0 sp0 [] h A) {x g p : Nat} (hx : x < 8) (hx1 : 1 ≤ x) (hg : g < 4) (hp : p < pln A g) : fX9_amountAt (some 1) (nI x) (nI g) (nI p) h = some (amt A x (6 * g + p), h) := by
  obtain ⟨p1, p2, p3, p4⟩ := pln_A w hg
  have em := p2 p hp
  have q1 : (nI x = 1) ↔ x = 1 := nI_eq (b := 1) (by omega) (by decide)
  have q2 : (nI x = 2) ↔ x = 2 := nI_eq (b := 2) (by omega) (by decide)
  have q3 : (nI x = 3) ↔ x = 3 := nI_eq (b := 3) (by omega) (by decide)
  have q4 : (nI x = 4) ↔ x = 4 := nI_eq (b := 4) (by omega) (by decide)
  have q5 : (nI x = 5) ↔ x = 5 := nI_eq (b := 5) (by omega) (by decide)
  have q6 : (nI x = 6) ↔ x = 6 := nI_eq (b := 6) (by omega) (by decide)
  have i1 := dnIn_nI (show 6 * g + p < 30 by omega) (by decide)
  have i2 : (nI (6 * g + p)).toNatClampNeg = 6 * g + p := nI_clamp (by omega)
  have hd : h.2.1 (1 + 2) (6 * g + p) = A.2.1 (6 * g + p) := c.hd (by omega)
  rcases gr_A w hg p1 em hp with ⟨e, kc, kr⟩ | ⟨r, hr, e, e3, hl, o, kc, kr⟩
  · unfold amt
    rw [e]
    simp only [fX9_amountAt, fX9_amountAt_j35, fX9_amountAt_j36, dnB_eval, sv (st1 c.1), kc h0 _ _ h c, Option.elim, q1, q2, q3, q4, q5, q6]
    rcases (by omega : x = 1 ∨ x = 2 ∨ x = 3 ∨ x = 4 ∨ x = 5 ∨ x = 6 ∨ x = 7) with rfl | rfl | rfl | rfl | rfl | rfl | rfl
    · simp [dnP]
    · simp [dnP]
    · simp [dnP]
    · simp [dnP]
    · simp only [show ¬ (5 : Nat) = 1 by decide, show ¬ (5 : Nat) = 2 by decide, show ¬ (5 : Nat) = 3 by decide, show ¬ (5 : Nat) = 4 by decide, if_false, if_true, dnB_eval, sg_1 (st1 c.1), at_c6, sa_2 (st1 c.1), i1, i2, hd]
      by_cases q : A.2.1 (6 * g + p) = -14 <;> simp [q, dnP]
    · simp only [show ¬ (6 : Nat) = 1 by decide, show ¬ (6 : Nat) = 2 by decide, show ¬ (6 : Nat) = 3 by decide, show ¬ (6 : Nat) = 4 by decide, show ¬ (6 : Nat) = 5 by decide, if_false, if_true, dnB_eval, sg_1 (st1 c.1), at_c6, sa_2 (st1 c.1), i1, i2, hd]
      by_cases q : A.2.1 (6 * g + p) = -14 <;> simp [q, dnP]
    · simp [dnP]
  · have hl0 := hl []
    have hc := holder_c c hr
    obtain ⟨f1, -, -⟩ := fh_live hl0
    rw [if_pos f1] at hc
    have keq : (nI (fh A r) = nI (6 * g + p)) ↔ fh A r = 6 * g + p := nI_eq (by omega) (by omega)
    have e14 : ¬ nI r = (-14 : Int32) := fun ee => absurd (show nI r < 0 by rw [ee]; decide) (nI_pos (by omega))
    have rr := c.row hr hl0
    unfold amt
    rw [e]
    simp only [fX9_amountAt, fX9_amountAt_j35, dnB_eval, sv (st1 c.1), kc h0 _ _ h c, Option.elim, rg_i (row1 c.1 hr), c.2.2.1 r hr, hc, at_c6, keq]
    have j36 : ∀ b : Bool, b = decide (fh A r = 6 * g + p) → fX9_amountAt_j36 (some 1) (nI x) (nI g) (nI p) (some (5 + 4 * r)) b h = some (if x = 1 then 1 else if x = 2 then 1 else if x = 3 then (if fh A r = 6 * g + p then 1 else 0) else if x = 4 then (if fh A r = 6 * g + p then nI (A.2.2.1 r).2.1 else 0) else if x = 5 then (if A.2.1 (6 * g + p) = -14 then 1 else 0) else if x = 6 then 0 else (if fh A r = 6 * g + p then aI (nlF (A.2.2.1 r)) (A.2.2.1 r).2.1 else 0), h) := fun b hb => by
      simp only [fX9_amountAt_j36, dnB_eval, Option.elim, q1, q2, q3, q4, q5, q6]
      rcases (by omega : x = 1 ∨ x = 2 ∨ x = 3 ∨ x = 4 ∨ x = 5 ∨ x = 6 ∨ x = 7) with rfl | rfl | rfl | rfl | rfl | rfl | rfl
      · simp [dnP]
      · simp [dnP]
      · by_cases q : fh A r = 6 * g + p <;> simp [hb, q, dnP]
      · by_cases q : fh A r = 6 * g + p
        · simp [hb, q, dnP, dnB_eval, rg_i (row1 c.1 hr), rr.2.1]
        · simp [hb, q, dnP]
      · simp only [show ¬ (5 : Nat) = 1 by decide, show ¬ (5 : Nat) = 2 by decide, show ¬ (5 : Nat) = 3 by decide, show ¬ (5 : Nat) = 4 by decide, if_false, if_true, dnB_eval, sg_1 (st1 c.1), at_c6, sa_2 (st1 c.1), i1, i2, hd, e3, e14, not_false_eq_true, dnP]
      · simp [dnP]
      · by_cases q : fh A r = 6 * g + p
        · simp [hb, q, dnP, dnB_eval, nulls_c c hr hl0 o]
        · simp [hb, q, dnP]
    by_cases q : fh A r = 6 * g + p
    · rw [if_neg (not_not_intro q)]
      exact j36 true (decide_eq_true q).symm
    · rw [if_pos q]
      exact j36 false (decide_eq_false q).symm
theorem ofRows_r {B : Nat} {A : Ab} (w : Wf B [] A) {h0 h : dnH} (c : RS h0 [] h A) {x : Nat} (v : Nat → Int32) (hv : (x = 3 ∧ v = fun _ => 1) ∨ (x = 4 ∧ v = fun r => nI (A.2.2.1 r).2.1) ∨ (x = 7 ∧ v = fun r => aI (nlF (A.2.2.1 r)) (A.2.2.1 r).2.1)) : fX13_ofRows (some 289) (nI x) h = some (sI (fun r => if fh A r < 24 then v r else 0) 32, h) := by
  have q3 : (nI x = 3) ↔ x = 3 := nI_eq (b := 3) (by rcases hv with ⟨e, -⟩ | ⟨e, -⟩ | ⟨e, -⟩ <;> omega) (by decide)
  have q4 : (nI x = 4) ↔ x = 4 := nI_eq (b := 4) (by rcases hv with ⟨e, -⟩ | ⟨e, -⟩ | ⟨e, -⟩ <;> omega) (by decide)
  have key : dnIt 1000 (fX13_ofRows_b4 (some 289) (nI x)) (0, 0) h = some (sI (fun r => if fh A r < 24 then v r else 0) 32, h) := by
    refine dnIt_run (f := fX13_ofRows_b4 (some 289) (nI x)) (q := sI (fun r => if fh A r < 24 then v r else 0) 32) (hq := h) 32 1000 (fun r => ((sI (fun r => if fh A r < 24 then v r else 0) r, nI r), h)) (by decide) ?_ ?_
    · intro r hr
      have hc : ¬ ((32 : Int32) ≤ nI r) := fun hc => by have := (nI_leI (a := 32) (b := r) (by omega) (by omega)).mp hc; omega
      show _ = some (Sum.inl (sI (fun r => if fh A r < 24 then v r else 0) r + (if fh A r < 24 then v r else 0), nI (r + 1)), h)
      simp only [fX13_ofRows_b4, fX13_ofRows_j49, fX13_ofRows_j51, hc, if_false, dnB_eval, v_289 c.1, holder_r c w.2.1 hr, fh_9, q3, q4]
      by_cases q : fh A r < 24
      · have hl := fh_lt.mp q
        have hr31 : r < 31 := by
          rcases hl with hl | ⟨k, hk, e⟩
          · cases hl
          · rcases w.2.1 k hk with e2 | e2 | e2 | ⟨n, hn, e2⟩
            · rw [e2] at e
              exact absurd (show nI r < 0 by rw [← e]; decide) (nI_pos (by omega))
            · rw [e2] at e
              exact absurd (show nI r < 0 by rw [← e]; decide) (nI_pos (by omega))
            · rw [e2] at e
              exact absurd (show nI r < 0 by rw [← e]; decide) (nI_pos (by omega))
            · rw [e2] at e
              have := (nI_eq (a := n) (b := r) (by omega) (by omega)).mp e
              omega
        have o := w.2.2.2 r hr31 hl
        simp only [q, not_true_eq_false, if_false, if_true]
        rcases hv with ⟨rfl, rfl⟩ | ⟨rfl, rfl⟩ | ⟨rfl, rfl⟩
        · simp only [not_true_eq_false, if_false, dnP, nI_1]
        · simp only [show ¬ (4 : Nat) = 3 by decide, not_false_eq_true, if_true, not_true_eq_false, if_false, dnB_eval, g_289_7 c.1, len_A c hr31 hl, dnP, nI_1]
        · simp only [show ¬ (7 : Nat) = 3 by decide, show ¬ (7 : Nat) = 4 by decide, not_false_eq_true, if_true, dnB_eval, v_289 c.1, nulls_r c hr31 hl o, dnP, nI_1]
      · simp only [q, not_false_eq_true, if_true, if_false, dnP, nI_1, Int32.add_zero]
    · simp only [fX13_ofRows_b4, show (32 : Int32) ≤ nI 32 by decide, if_true, dnP]
  simp only [fX13_ofRows, dnB_eval, key, dnP]
theorem gr_out {B : Nat} {A : Ab} (w : Wf B [] A) {k : Nat} (hk : k < 24) (h : ¬ k % 6 < pln A (k / 6)) : gr A k = none := by
  obtain ⟨p1, p2, p3, p4⟩ := pln_A w (show k / 6 < 4 by omega)
  have := w.2.2.1 (k / 6) (by omega) (k % 6) (by omega) (Int32.le_trans p3 ((nI_leI (by omega) (by omega)).mpr (by omega)))
  rw [show 6 * (k / 6) + k % 6 = k by omega] at this
  unfold gr
  rw [this]
  rfl
