/-! ABS 43: trail -/
def tr (A : Ab) (G m : Nat) : Nat → Nat × Nat × (Nat → Option Int64)
  | 0 => (0, 0, fun _ => none)
  | t + 1 => match gv A (6 * G + (m - 1 - t)) with
    | none => tr A G m t
    | some R => ((tr A G m t).1 + 1, R.2.1, nxW (decide ((tr A G m t).1 = 0)) (tr A G m t).2.2 R)
theorem tr_n {A : Ab} {G m t : Nat} (e : gv A (6 * G + (m - 1 - t)) = none) : tr A G m (t + 1) = tr A G m t := by rw [tr, e]
theorem tr_s {A : Ab} {G m t : Nat} {R : Rw} (e : gv A (6 * G + (m - 1 - t)) = some R) : tr A G m (t + 1) = ((tr A G m t).1 + 1, R.2.1, nxW (decide ((tr A G m t).1 = 0)) (tr A G m t).2.2 R) := by rw [tr, e]
theorem bdO.ad {t : Nat} {o : Option Int64} {n : Int64} (ht : t ≤ 6) (h : bdO t o) (h1 : -2 ^ 31 ≤ n.toInt) (h2 : n.toInt < 2 ^ 31) : bdO (t + 1) (o.map (fun v => v + n)) := by
  intro v hv
  cases o with
  | none => cases hv
  | some u =>
    obtain ⟨g1, g2⟩ := h u rfl
    cases hv
    have b : (t : Int) * 2 ^ 31 ≤ 6 * 2 ^ 31 := by omega
    have e : (u + n).toInt = u.toInt + n.toInt := by
      rw [Int64.toInt_add]
      exact Int.bmod_eq_of_le (by omega) (by omega)
    rw [e, Int.natCast_add, Int.add_mul]
    omega
theorem nr_bd {t : Nat} {W : Nat → Option Int64} (h : ∀ y, bdO t (W y)) (x : Nat) : bdO t (nr W x) := by
  refine ((?_ : bdO t _).mx (h x)).mx (h (x + 1))
  split
  · intro v hv; cases hv
  · exact h _
theorem tr_ok {B : Nat} {A : Ab} (w : Wf B [] A) {G m : Nat} (hG : G < 4) (hm : m ≤ 6) (e1 : A.1 G = nI m) (hrd : ∀ p, p < m → unr 4 (gv A (6 * G + p)) = false) : ∀ t, t ≤ m → (tr A G m t).1 ≤ t ∧ (tr A G m t).2.1 ≤ 12 ∧ (∀ y, (tr A G m t).2.1 ≤ y → (tr A G m t).2.2 y = none) ∧ ∀ y, bdO (tr A G m t).1 ((tr A G m t).2.2 y) := by
  intro t
  induction t with
  | zero => intro _; exact ⟨Nat.le_refl _, by show 0 ≤ 12; omega, fun _ _ => rfl, fun _ v hv => by cases hv⟩
  | succ t ih =>
    intro ht
    obtain ⟨k1, k2, k3, k4⟩ := ih (by omega)
    rcases gv_A w hG hm e1 (show m - 1 - t < m by omega) with ⟨e, -, -⟩ | ⟨r, hr, e, -, hl, o, -, -⟩
    · rw [tr_n e]
      exact ⟨by omega, k2, k3, k4⟩
    · rw [tr_s e]
      refine ⟨by show _ + 1 ≤ _; omega, o.2.1, fun y hy => ?_, fun y => ?_⟩
      · show nxW _ _ (A.2.2.1 r) y = none
        unfold nxW
        rw [if_neg (by have hy : (A.2.2.1 r).2.1 ≤ y := hy; omega)]
      · show bdO ((tr A G m t).1 + 1) (nxW _ _ (A.2.2.1 r) y)
        unfold nxW
        split
        · rename_i hy
          have N1 := o.2.1
          have hu := hrd (m - 1 - t) (by omega)
          rw [e] at hu
          have hu : (!(decide ((A.2.2.1 r).2.1 = 0) || (decide ((A.2.2.1 r).1 < 8) && tk 4 (A.2.2.1 r).1))) = false := hu
          rw [decide_eq_false (show ¬ (A.2.2.1 r).2.1 = 0 by omega), Bool.false_or, Bool.not_eq_false'] at hu
          obtain ⟨z1, z2⟩ := Bool.and_eq_true_iff.mp hu
          have oky := o.2.2 y (by omega)
          have hs : ((A.2.2.1 r).2.2 y).1 ≤ 4 := by
            rw [oky.2.2.1 (of_decide_eq_true z1)]
            exact (by decide +kernel : ∀ s, s < 12 → tk 4 s = true → s ≤ 4) _ o.1 z2
          obtain ⟨g1, g2⟩ := oky.2.2.2.1 hs
          refine bdO.ad (by omega) ?_ g1 g2
          split
          · intro v hv
            cases hv
            rw [show (0 : Int64).toInt = 0 from rfl]
            omega
          · exact nr_bd k4 y
        · intro v hv; cases hv
def Best (W : Nat → Option Int64) (X : Nat) (v : Int64) : Prop := X < 12 ∧ W X = some v ∧ ∀ z u, W z = some u → u ≤ v ∧ (z < X → u < v)
theorem best_uniq {W : Nat → Option Int64} {X Y : Nat} {v u : Int64} (h : Best W X v) (h2 : Best W Y u) : X = Y ∧ v = u := by
  have a := h.2.2 Y u h2.2.1
  have b := h2.2.2 X v h.2.1
  have c : v = u := Int64.le_antisymm b.1 a.1
  refine ⟨?_, c⟩
  rcases Nat.lt_trichotomy X Y with q | q | q
  · have := b.2 q
    rw [c] at this
    exact absurd this (Int64.lt_irrefl)
  · exact q
  · have := a.2 q
    rw [c] at this
    exact absurd this (Int64.lt_irrefl)
/-- an empty row on the way: nothing reaches the top; none empty: the first place is reached -/
theorem tr_empty {A : Ab} {G m : Nat} : ∀ t, (∃ s R, s < t ∧ gv A (6 * G + (m - 1 - s)) = some R ∧ R.2.1 = 0) → (tr A G m t).1 ≠ 0 ∧ ∀ y, (tr A G m t).2.2 y = none := by
  intro t
  induction t with
  | zero => rintro ⟨s, R, hs, -⟩; omega
  | succ t ih =>
    rintro ⟨s, R, hs, e, hR⟩
    cases e2 : gv A (6 * G + (m - 1 - t)) with
    | none =>
      rw [tr_n e2]
      refine ih ⟨s, R, ?_, e, hR⟩
      by_cases q : s = t
      · rw [q, e2] at e; cases e
      · omega
    | some Q =>
      rw [tr_s e2]
      refine ⟨by show _ + 1 ≠ 0; omega, fun y => ?_⟩
      show nxW _ _ Q y = none
      by_cases q : s = t
      · rw [q, e2] at e
        cases e
        unfold nxW
        rw [if_neg (by omega)]
      · obtain ⟨k1, k2⟩ := ih ⟨s, R, by omega, e, hR⟩
        unfold nxW
        rw [decide_eq_false k1]
        split
        · have : nr (tr A G m t).2.2 y = none := by
            unfold nr
            rw [k2, k2, k2]
            split <;> rfl
          simp only [this, Bool.false_eq_true, if_false]
          rfl
        · rfl
theorem tr_first {A : Ab} {G m : Nat} : ∀ t, (∀ s R, s < t → gv A (6 * G + (m - 1 - s)) = some R → R.2.1 ≠ 0) → (tr A G m t).1 ≠ 0 → (tr A G m t).2.1 ≠ 0 ∧ ∃ v, (tr A G m t).2.2 0 = some v := by
  intro t
  induction t with
  | zero => intro _ h; exact absurd rfl h
  | succ t ih =>
    intro h hc
    cases e2 : gv A (6 * G + (m - 1 - t)) with
    | none =>
      rw [tr_n e2] at hc ⊢
      exact ih (fun s R hs => h s R (by omega)) hc
    | some Q =>
      have hQ := h t Q (by omega) e2
      rw [tr_s e2]
      refine ⟨hQ, ?_⟩
      show ∃ v, nxW _ _ Q 0 = some v
      unfold nxW
      rw [if_pos (by omega)]
      by_cases q : (tr A G m t).1 = 0
      · rw [decide_eq_true q]
        exact ⟨_, rfl⟩
      · rw [decide_eq_false q]
        obtain ⟨-, v, hv⟩ := ih (fun s R hs => h s R (by omega)) q
        have : ∃ u, nr (tr A G m t).2.2 0 = some u := by
          unfold nr
          rw [if_pos rfl, hv]
          cases (tr A G m t).2.2 (0 + 1) with
          | none => exact ⟨_, rfl⟩
          | some z => exact ⟨_, rfl⟩
        obtain ⟨u, hu⟩ := this
        simp only [Bool.false_eq_true, if_false, hu]
        exact ⟨_, rfl⟩
