/-! ABS 35: sorting, by keys -/
def kz (c : Cel) : Int := if isRlN c.1 then FP.Core.zval FP.Core.b64 (FP.Core.val64 c.2.2) else c.2.1.toInt
theorem dGt_z {x y : UInt64} (hx : FP.Core.val64 x ≠ .nan) (hy : FP.Core.val64 y ≠ .nan) : dGt x y = decide (FP.Core.zval FP.Core.b64 (FP.Core.val64 y) < FP.Core.zval FP.Core.b64 (FP.Core.val64 x)) := by
  unfold dGt
  rw [show FP.dcmp x y = _ from FP.Core.dcmp_zval hx hy]
  simp only [compare, compareOfLessAndEq]
  split
  · rename_i h
    rw [decide_eq_decide]
    exact ⟨fun hc => absurd (by decide) hc, fun hc => by omega⟩
  · split
    · rename_i h
      rw [decide_eq_decide]
      exact ⟨fun hc => absurd (by decide) hc, fun hc => by omega⟩
    · rw [decide_eq_decide]
      exact ⟨fun hc => by omega, fun _ => by decide⟩
theorem dEq_z {x y : UInt64} (hx : FP.Core.val64 x ≠ .nan) (hy : FP.Core.val64 y ≠ .nan) : dEq x y = decide (FP.Core.zval FP.Core.b64 (FP.Core.val64 x) = FP.Core.zval FP.Core.b64 (FP.Core.val64 y)) := by
  unfold dEq
  rw [show FP.dcmp x y = _ from FP.Core.dcmp_zval hx hy]
  simp only [compare, compareOfLessAndEq]
  split
  · rename_i h
    rw [decide_eq_decide]
    exact ⟨fun hc => absurd hc (by decide), fun hc => by omega⟩
  · split
    · rename_i h
      rw [decide_eq_decide]
      exact ⟨fun hc => h, fun hc => by decide⟩
    · rw [decide_eq_decide]
      exact ⟨fun hc => absurd hc (by decide), fun hc => by omega⟩
theorem val_nan {B s : Nat} {N : Int64} {D : UInt64} (h : valOk B s N D) : FP.Core.val64 D ≠ .nan := by
  rw [← ok64_iff]
  cases q : isRlN s
  · rw [h.2.2.1 q]
    unfold ok64
    decide
  · have k67 : s = 6 ∨ s = 7 := by simpa [isRlN] using q
    rcases k67 with k | k
    · exact (h.2.2.2.2.2.1 k).db.ok
    · exact (h.2.2.2.2.2.2 k).ok
theorem gtC_z {B a : Nat} {c c2 : Cel} (h1 : c.1 = a) (h2 : c2.1 = a) (v1 : valOk B c.1 c.2.1 c.2.2) (v2 : valOk B c2.1 c2.2.1 c2.2.2) : gtC c c2 = decide (kz c2 < kz c) := by
  unfold gtC kz
  rw [h1, h2]
  cases isRlN a
  · simp only [Bool.false_eq_true, if_false]
    rw [decide_eq_decide]
    exact Int64.lt_iff_toInt_lt
  · simp only [if_true]
    exact dGt_z (val_nan v1) (val_nan v2)
def bef (K : Nat → Int) (k j : Nat) : Bool := decide (K j < K k ∨ (K j = K k ∧ j < k))
def insP (P : Nat → Nat) (s x t : Nat) : Nat := if t < s then P t else if t = s then x else P (t - 1)
def Srt (K : Nat → Int) (i : Nat) (P : Nat → Nat) : Prop := (∀ t, t < i → P t < i) ∧ (∀ k, k < i → ∃ t, t < i ∧ P t = k) ∧ (∀ t, t < i → cN (bef K (P t)) i = t) ∧ (∀ t u, t ≤ u → u < i → K (P t) ≤ K (P u)) ∧ ∀ F : Nat → Bool, cN (fun t => F (P t)) i = cN F i
theorem cN_congr {F G : Nat → Bool} : ∀ n, (∀ i, i < n → F i = G i) → cN F n = cN G n := by
  intro n
  induction n with
  | zero => intro _; rfl
  | succ n ih =>
    intro h
    show cN F n + (if F n then 1 else 0) = cN G n + (if G n then 1 else 0)
    rw [ih (fun i hi => h i (by omega)), h n (by omega)]
theorem cN_ins (F : Nat → Bool) (P : Nat → Nat) (s x : Nat) : ∀ i, s ≤ i → cN (fun t => F (insP P s x t)) (i + 1) = cN (fun t => F (P t)) i + (if F x then 1 else 0) := by
  intro i
  induction i with
  | zero =>
    intro h
    have : s = 0 := by omega
    subst this
    rfl
  | succ i ih =>
    intro h
    show cN (fun t => F (insP P s x t)) (i + 1) + (if F (insP P s x (i + 1)) then 1 else 0) = cN (fun t => F (P t)) i + (if F (P i) then 1 else 0) + (if F x then 1 else 0)
    by_cases q : s = i + 1
    · have e1 : insP P s x (i + 1) = x := by unfold insP; rw [if_neg (by omega), if_pos (by omega)]
      have e2 : cN (fun t => F (insP P s x t)) (i + 1) = cN (fun t => F (P t)) (i + 1) := cN_congr _ (fun t ht => by
        show F (insP P s x t) = F (P t)
        unfold insP
        rw [if_pos (by omega)])
      rw [e1, e2]
      rfl
    · have e1 : insP P s x (i + 1) = P i := by unfold insP; rw [if_neg (by omega), if_neg (by omega), show i + 1 - 1 = i by omega]
      rw [e1, ih (by omega)]
      omega
theorem cN_all {F : Nat → Bool} : ∀ n, (∀ i, i < n → F i = true) → cN F n = n := by
  intro n
  induction n with
  | zero => intro _; rfl
  | succ n ih =>
    intro h
    show cN F n + (if F n then 1 else 0) = n + 1
    rw [ih (fun i hi => h i (by omega)), h n (by omega)]
    rfl
theorem cN_step {F : Nat → Bool} (s : Nat) : ∀ d, (∀ i, i < s → F i = true) → (∀ i, s ≤ i → i < s + d → F i = false) → cN F (s + d) = s := by
  intro d
  induction d with
  | zero => intro h _; exact cN_all s h
  | succ d ih =>
    intro h h2
    show cN F (s + d) + (if F (s + d) then 1 else 0) = s
    rw [ih h (fun i hi hj => h2 i hi (by omega)), h2 (s + d) (by omega) (by omega)]
    rfl
theorem srt_0 (K : Nat → Int) (P : Nat → Nat) : Srt K 0 P := ⟨fun t ht => by omega, fun t ht => by omega, fun t ht => by omega, fun t u _ ht => by omega, fun F => rfl⟩
theorem srt_step {K : Nat → Int} {i s : Nat} {P : Nat → Nat} (h : Srt K i P) (hs : s ≤ i) (lo : ∀ t, t < s → K (P t) ≤ K i) (hi : ∀ t, s ≤ t → t < i → K i < K (P t)) : Srt K (i + 1) (insP P s i) := by
  obtain ⟨h1, h2, h3, h4, h5⟩ := h
  have eL : ∀ t, t < s → insP P s i t = P t := fun t ht => if_pos ht
  have eM : insP P s i s = i := by unfold insP; rw [if_neg (by omega), if_pos rfl]
  have eH : ∀ t, s < t → insP P s i t = P (t - 1) := fun t ht => by unfold insP; rw [if_neg (by omega), if_neg (by omega)]
  have cs : ∀ k, cN (bef K k) (i + 1) = cN (bef K k) i + (if bef K k i then 1 else 0) := fun k => rfl
  refine ⟨fun t ht => ?_, fun k hk => ?_, fun t ht => ?_, fun t u htu hu => ?_, fun F => ?_⟩
  · rcases Nat.lt_trichotomy t s with q | q | q
    · rw [eL t q]; have := h1 t (by omega); omega
    · rw [q, eM]; omega
    · rw [eH t q]; have := h1 (t - 1) (by omega); omega
  · by_cases q : k = i
    · exact ⟨s, by omega, by rw [eM, q]⟩
    · obtain ⟨t, ht, e⟩ := h2 k (by omega)
      by_cases q2 : t < s
      · exact ⟨t, by omega, by rw [eL t q2, e]⟩
      · exact ⟨t + 1, by omega, by rw [eH (t + 1) (by omega), show t + 1 - 1 = t by omega, e]⟩
  · rcases Nat.lt_trichotomy t s with q | q | q
    · rw [eL t q, cs, h3 t (by omega)]
      have := lo t q
      have hk := h1 t (by omega)
      have : bef K (P t) i = false := decide_eq_false (by omega)
      rw [this]
      rfl
    · rw [q, eM, cs]
      have e1 : bef K i i = false := decide_eq_false (by omega)
      rw [e1]
      show cN (bef K i) i + 0 = s
      rw [Nat.add_zero, ← h5]
      have := cN_step (F := fun t => bef K i (P t)) s (i - s) (fun t ht => decide_eq_true (by
        have a1 := lo t ht
        have a2 := h1 t (by omega)
        omega)) (fun t ht hu => decide_eq_false (by
        have a1 := hi t ht (by omega)
        omega))
      rw [show s + (i - s) = i by omega] at this
      exact this
    · rw [eH t q, cs, h3 (t - 1) (by omega)]
      have := hi (t - 1) (by omega) (by omega)
      have : bef K (P (t - 1)) i = true := decide_eq_true (by omega)
      rw [this]
      show t - 1 + 1 = t
      omega
  · rcases Nat.lt_trichotomy t s with q | q | q
    · rw [eL t q]
      rcases Nat.lt_trichotomy u s with q2 | q2 | q2
      · rw [eL u q2]; exact h4 t u htu (by omega)
      · rw [q2, eM]; exact lo t q
      · rw [eH u q2]
        have := lo t q
        have := hi (u - 1) (by omega) (by omega)
        omega
    · rw [q, eM]
      by_cases q2 : u = s
      · rw [q2, eM]; exact Int.le_refl _
      · rw [eH u (by omega)]
        have := hi (u - 1) (by omega) (by omega)
        omega
    · rw [eH t q, eH u (by omega)]
      exact h4 _ _ (by omega) (by omega)
  · rw [cN_ins F P s i i hs, h5 F]
    rfl
theorem srt_ex (K : Nat → Int) : ∀ n, ∃ P, Srt K n P := by
  intro n
  induction n with
  | zero => exact ⟨id, srt_0 K id⟩
  | succ i ih =>
    obtain ⟨P, h⟩ := ih
    rcases first_of (fun t => decide (K i < K (P t))) i with hf | ⟨s, hs, hs1, hs2⟩
    · exact ⟨_, srt_step h (Nat.le_refl i) (fun t ht => by have := of_decide_eq_false (hf t ht); omega) (fun t ht hu => by omega)⟩
    · have a := of_decide_eq_true hs1
      exact ⟨_, srt_step (s := s) h (by omega) (fun t ht => by have := of_decide_eq_false (hs2 t ht); omega) (fun t ht hu => by have := h.2.2.2.1 s t ht hu; omega)⟩
theorem srt_uniq {K : Nat → Int} {n : Nat} {P P2 : Nat → Nat} (h : Srt K n P) (h2 : Srt K n P2) : ∀ t, t < n → P t = P2 t := by
  intro t ht
  obtain ⟨u, hu, e⟩ := h2.2.1 (P t) (h.1 t ht)
  have a := h.2.2.1 t ht
  have b := h2.2.2.1 u hu
  rw [e, a] at b
  rw [← e, b]
