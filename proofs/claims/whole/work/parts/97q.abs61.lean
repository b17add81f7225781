/-! ABS 61: plan: the text, in words of its own -/
def inL (t : Nat → Nat) (n lo hi p : Nat) : Bool := decide (p < n ∧ lo ≤ t p ∧ t p ≤ hi)
def rnF (t : Nat → Nat) (n lo hi : Nat) : Nat → Nat → Nat
  | 0, p => p
  | f + 1, p => if inL t n lo hi p = true then rnF t n lo hi f (p + 1) else p
def rn (t : Nat → Nat) (n lo hi p : Nat) : Nat := rnF t n lo hi (n - p) p
theorem rnF_sp {t : Nat → Nat} {n lo hi : Nat} : ∀ f p, p + f = n → p ≤ rnF t n lo hi f p ∧ rnF t n lo hi f p ≤ n ∧ (∀ i, p ≤ i → i < rnF t n lo hi f p → inL t n lo hi i = true) ∧ inL t n lo hi (rnF t n lo hi f p) = false := by
  intro f
  induction f with
  | zero =>
    intro p hp
    exact ⟨Nat.le_refl _, by show p ≤ n; omega, fun i h1 h2 => by have h2 : i < p := h2; omega, decide_eq_false (by show ¬ (p < n ∧ _); omega)⟩
  | succ f ih =>
    intro p hp
    have e : rnF t n lo hi (f + 1) p = if inL t n lo hi p = true then rnF t n lo hi f (p + 1) else p := rfl
    rw [e]
    by_cases q : inL t n lo hi p = true
    · rw [if_pos q]
      obtain ⟨h1, h2, h3, h4⟩ := ih (p + 1) (by omega)
      refine ⟨by omega, h2, fun i hi1 hi2 => ?_, h4⟩
      by_cases c : i = p
      · rw [c]; exact q
      · exact h3 i (by omega) hi2
    · rw [if_neg q]
      exact ⟨Nat.le_refl _, by omega, fun i h1 h2 => by omega, by simpa using q⟩
theorem rn_sp {t : Nat → Nat} {n lo hi p : Nat} (hp : p ≤ n) : p ≤ rn t n lo hi p ∧ rn t n lo hi p ≤ n ∧ (∀ i, p ≤ i → i < rn t n lo hi p → inL t n lo hi i = true) ∧ inL t n lo hi (rn t n lo hi p) = false := rnF_sp (n - p) p (by omega)
theorem inL_nI {t : Nat → Nat} {n lo hi i : Nat} (ht : t i < 256) (hl : lo < 256) (hh : hi < 256) (hi2 : i < n) : (inL t n lo hi i = true ↔ lo ≤ t i ∧ t i ≤ hi) ∧ (nI (t i) < nI lo ↔ t i < lo) ∧ (nI hi < nI (t i) ↔ hi < t i) := by
  refine ⟨?_, nI_ltI (by omega) (by omega), nI_ltI (by omega) (by omega)⟩
  unfold inL
  rw [decide_eq_true_iff]
  exact ⟨fun h => h.2, fun h => ⟨hi2, h⟩⟩
/-- the class's text, the reference's text -/
def Tx (h : dnH) (t : Nat → Nat) (n : Nat) : Prop := h.2.1 281 1 = nI n ∧ ∀ i, i < n → h.2.1 282 i = nI (t i)
def RTx (h : dnH) (t : Nat → Nat) (n : Nat) : Prop := h.2.1 289 37 = nI n ∧ ∀ i, i < n → h.2.1 316 i = nI (t i)
theorem tx_A {h : dnH} {t : Nat → Nat} {n i : Nat} (hs : Sh h) (x : Tx h t n) (hn : n ≤ 80) (hi : i < n) : dnAI (some 282) 101 (nI i) h = some (nI (t i), h) := by
  rw [a_282 hs, dnIn_nI (show i < 80 by omega) (by decide), nI_clamp (by omega), x.2 i hi]
  rfl
theorem rtx_A {h : dnH} {t : Nat → Nat} {n i : Nat} (hs : Sh h) (x : RTx h t n) (hn : n ≤ 80) (hi : i < n) : dnAI (some 316) 100 (nI i) h = some (nI (t i), h) := by
  rw [a_316 hs, dnIn_nI (show i < 80 by omega) (by decide), nI_clamp (by omega), x.2 i hi]
  rfl
theorem end_c {h : dnH} {t : Nat → Nat} {n p lo hi : Nat} (hs : Sh h) (x : Tx h t n) (hn : n ≤ 80) (ht : ∀ i, i < n → t i < 256) (hp : p ≤ n) (hl : lo < 256) (hh : hi < 256) : fX3_endOfRun (some 281) (nI p) (nI lo) (nI hi) h = some (nI (rn t n lo hi p), h) := by
  obtain ⟨r1, r2, r3, r4⟩ := rn_sp (t := t) (lo := lo) (hi := hi) hp
  have key := dnIt_run (f := fX3_endOfRun_b3 (some 281) (nI lo) (nI hi)) (q := nI (rn t n lo hi p)) (hq := h) (rn t n lo hi p - p) 1000 (fun j => (nI (p + j), h)) (by omega) (fun j hj => by
    have hc : ¬ (nI n ≤ nI (p + j)) := fun hc => by have := (nI_leI (a := n) (b := p + j) (by omega) (by omega)).mp hc; omega
    obtain ⟨q1, q2, q3⟩ := inL_nI (t := t) (n := n) (i := p + j) (ht _ (by omega)) hl hh (by omega)
    obtain ⟨q4, q5⟩ := q1.mp (r3 (p + j) (by omega) (by omega))
    have n2 : ¬ nI (t (p + j)) < nI lo := fun hc => by have := q2.mp hc; omega
    have n3 : ¬ nI hi < nI (t (p + j)) := fun hc => by have := q3.mp hc; omega
    have ej : nI (p + j + 1) = nI (p + (j + 1)) := rfl
    simp only [fX3_endOfRun_b3, dnB_eval, g_281_1 hs, x.1, hc, if_false, g_281_0 hs, tx_A hs x hn (show p + j < n by omega), n2, n3, dnP, nI_1, ej]) (by
    have ep : p + (rn t n lo hi p - p) = rn t n lo hi p := by omega
    show fX3_endOfRun_b3 (some 281) (nI lo) (nI hi) (nI (p + (rn t n lo hi p - p))) h = _
    rw [ep]
    by_cases q : n ≤ rn t n lo hi p
    · have hc : nI n ≤ nI (rn t n lo hi p) := (nI_leI (by omega) (by omega)).mpr q
      simp only [fX3_endOfRun_b3, dnB_eval, g_281_1 hs, x.1, hc, if_true, dnP]
    · have hc : ¬ (nI n ≤ nI (rn t n lo hi p)) := fun hc => by have := (nI_leI (a := n) (b := rn t n lo hi p) (by omega) (by omega)).mp hc; omega
      obtain ⟨q1, q2, q3⟩ := inL_nI (t := t) (n := n) (i := rn t n lo hi p) (ht _ (by omega)) hl hh (by omega)
      have nq : ¬ (lo ≤ t (rn t n lo hi p) ∧ t (rn t n lo hi p) ≤ hi) := fun hc => by rw [q1.mpr hc] at r4; cases r4
      by_cases c1 : t (rn t n lo hi p) < lo
      · simp only [fX3_endOfRun_b3, dnB_eval, g_281_1 hs, x.1, hc, if_false, g_281_0 hs, tx_A hs x hn (show rn t n lo hi p < n by omega), q2.mpr c1, if_true, dnP]
      · have n2 : ¬ nI (t (rn t n lo hi p)) < nI lo := fun hc => c1 (q2.mp hc)
        have c2 : nI hi < nI (t (rn t n lo hi p)) := q3.mpr (by omega)
        simp only [fX3_endOfRun_b3, dnB_eval, g_281_1 hs, x.1, hc, if_false, g_281_0 hs, tx_A hs x hn (show rn t n lo hi p < n by omega), n2, c2, if_true, dnP])
  have key : dnIt 1000 (fX3_endOfRun_b3 (some 281) (nI lo) (nI hi)) (nI p) h = some (nI (rn t n lo hi p), h) := key
  simp only [fX3_endOfRun, dnB_eval, key, dnP]
theorem ends_c {h : dnH} {t : Nat → Nat} {n p : Nat} (hs : Sh h) (x : Tx h t n) (hn : n ≤ 80) (ht : ∀ i, i < n → t i < 256) (hp : p ≤ n) : fX3_endOfDigits (some 281) (nI p) h = some (nI (rn t n 48 57 p), h) ∧ fX3_endOfLetters (some 281) (nI p) h = some (nI (rn t n 97 122 p), h) ∧ fX3_endOfSpaces (some 281) (nI p) h = some (nI (rn t n 32 32 p), h) := by
  have a1 : fX3_endOfRun (some 281) (nI p) 48 57 h = some (nI (rn t n 48 57 p), h) := end_c hs x hn ht hp (by decide) (by decide)
  have a2 : fX3_endOfRun (some 281) (nI p) 97 122 h = some (nI (rn t n 97 122 p), h) := end_c hs x hn ht hp (by decide) (by decide)
  have a3 : fX3_endOfRun (some 281) (nI p) 32 32 h = some (nI (rn t n 32 32 p), h) := end_c hs x hn ht hp (by decide) (by decide)
  refine ⟨?_, ?_, ?_⟩
  · simp only [fX3_endOfDigits, dnB_eval, v_281 hs, a1, dnP]
  · simp only [fX3_endOfLetters, dnB_eval, v_281 hs, a2, dnP]
  · simp only [fX3_endOfSpaces, dnB_eval, v_281 hs, a3, dnP]
/-- the words -/
def lt (w i : Nat) : Nat := ((dnWrd.getD w []).getD i 0).toNatClampNeg
def eqW (t : Nat → Nat) (p m w : Nat) : Bool := decide (m = dnWl w) && (List.range (dnWl w)).all (fun i => decide (t (p + i) = lt w i))
def wdI (t : Nat → Nat) (p m : Nat) : Nat := ((List.range 14).find? (eqW t p m)).getD 14
def cnW (w : Nat) : Nat := (dnNum w).toNatClampNeg
theorem eqW_iff {t : Nat → Nat} {p m w : Nat} : eqW t p m w = true ↔ m = dnWl w ∧ ∀ i, i < dnWl w → t (p + i) = lt w i := by
  unfold eqW
  rw [Bool.and_eq_true_iff, decide_eq_true_iff, List.all_eq_true]
  constructor
  · rintro ⟨h1, h2⟩
    exact ⟨h1, fun i hi => of_decide_eq_true (h2 i (List.mem_range.mpr hi))⟩
  · rintro ⟨h1, h2⟩
    exact ⟨h1, fun i hi => decide_eq_true (h2 i (List.mem_range.mp hi))⟩
theorem wdI_cases (t : Nat → Nat) (p m : Nat) : (wdI t p m = 14 ∧ ∀ w, w < 14 → eqW t p m w = false) ∨ (wdI t p m < 14 ∧ eqW t p m (wdI t p m) = true ∧ ∀ w, w < wdI t p m → eqW t p m w = false) := by
  unfold wdI
  cases h : (List.range 14).find? (eqW t p m) with
  | none =>
    refine .inl ⟨rfl, fun w hw => ?_⟩
    have := List.find?_eq_none.mp h w (List.mem_range.mpr hw)
    simpa using this
  | some w =>
    right
    obtain ⟨h1, as, bs, h2, h3⟩ := List.find?_eq_some_iff_append.mp h
    have hw : w < 14 := List.mem_range.mp (List.mem_of_find?_eq_some h)
    refine ⟨hw, h1, fun v hv => ?_⟩
    rcases first_of (eqW t p m) 14 with hf | ⟨u, hu, hu1, hu2⟩
    · rw [hf w hw] at h1; cases h1
    · have hv : v < w := hv
      by_cases c : v < u
      · exact hu2 v c
      · exfalso
        have hlen : as.length = w := by
          have e1 : (List.range 14)[as.length]? = some w := by rw [h2]; simp
          rw [List.getElem?_range] at e1
          · exact Option.some.inj e1
          · have : (List.range 14).length = as.length + (w :: bs).length := by rw [h2, List.length_append]
            simp at this
            omega
        have hmem : u ∈ as := by
          have e2 : (List.range 14)[u]? = some u := List.getElem?_range hu
          rw [h2, List.getElem?_append_left (by omega)] at e2
          exact List.mem_of_getElem? e2
        have := h3 u hmem
        rw [hu1] at this
        cases this
theorem wfacts : ∀ w, w < 14 → dnLen w = nI (dnWl w) ∧ dnWl w ≤ 6 ∧ 1 ≤ dnWl w ∧ dnNum w = nI (cnW w) ∧ cnW w ≤ 5 ∧ ∀ i, i < dnWl w → dnChr w (nI i) = nI (lt w i) ∧ lt w i < 256 ∧ 97 ≤ lt w i ∧ lt w i ≤ 122 := by decide +kernel
theorem dnXW_A {w : Nat} (hw : w < 14) (h : dnH) : dnXW (nI w) h = some (w, h) := by
  unfold dnXW
  rw [dnIn_nI (show w < 14 by omega) (by decide), nI_clamp (by omega)]
  rfl
theorem dnSk_A {w : Nat} (hw : w < 14) (h : dnH) : dnSk w h = some ((), h) := by
  unfold dnSk
  rw [if_pos hw]
theorem stands_c {h : dnH} {t : Nat → Nat} {n p w : Nat} (hs : Sh h) (x : Tx h t n) (hn : n ≤ 80) (ht : ∀ i, i < n → t i < 256) (hw : w < 14) (hp : p + dnWl w ≤ n) : fX3_standsAt (some 281) w (nI p) h = some (decide (∀ i, i < dnWl w → t (p + i) = lt w i), h) := by
  obtain ⟨w1, w2, w3, w4, w5, w6⟩ := wfacts w hw
  have step : ∀ j, j < dnWl w → fX3_standsAt_b2 (some 281) w (nI p) (nI j) h = if t (p + j) = lt w j then some (.inl (nI (j + 1)), h) else some (.inr (.inr false), h) := fun j hj => by
    obtain ⟨c1, c2, c3, c4⟩ := w6 j hj
    have hc : ¬ (nI (dnWl w) ≤ nI j) := fun hc => by have := (nI_leI (a := dnWl w) (b := j) (by omega) (by omega)).mp hc; omega
    have sc : dnSc w (nI j) h = some ((), h) := by
      unfold dnSc
      rw [if_pos ⟨hw, dnIn_nI hj (by omega)⟩]
    have tj := ht (p + j) (by omega)
    have ee : (nI (t (p + j)) = nI (lt w j)) ↔ t (p + j) = lt w j := nI_eq (by omega) (by omega)
    simp only [fX3_standsAt_b2, dnB_eval, dnSk_A hw, w1, hc, if_false, g_281_0 hs, nI_add, tx_A hs x hn (show p + j < n by omega), sc, c1, ee]
    by_cases q : t (p + j) = lt w j
    · simp only [q, if_true, dnP, nI_1]
    · simp only [q, if_false, dnP]
  have fin : fX3_standsAt_b2 (some 281) w (nI p) (nI (dnWl w)) h = some (.inr (.inl ()), h) := by
    simp only [fX3_standsAt_b2, dnB_eval, dnSk_A hw, w1, Int32.le_refl, if_true, dnP]
  rcases first_of (fun j => !decide (t (p + j) = lt w j)) (dnWl w) with hf | ⟨m, hm, h1, h2⟩
  · have hall : ∀ j, j < dnWl w → t (p + j) = lt w j := fun j hj => by simpa using hf j hj
    have := dnIt_run (f := fX3_standsAt_b2 (some 281) w (nI p)) (q := .inl ()) (hq := h) (dnWl w) 1000 (fun i => (nI i, h)) (by omega) (fun j hj => by rw [step j hj, if_pos (hall j hj)]) fin
    have this : dnIt 1000 (fX3_standsAt_b2 (some 281) w (nI p)) 0 h = some (.inl (), h) := this
    rw [decide_eq_true hall]
    simp only [fX3_standsAt, dnB_eval, this, Sum.elim_inl, dnP]
  · have hno : ¬ t (p + m) = lt w m := by simpa using h1
    have hlo : ∀ j, j < m → t (p + j) = lt w j := fun j hj => by simpa using h2 j hj
    have := dnIt_run (f := fX3_standsAt_b2 (some 281) w (nI p)) (q := .inr false) (hq := h) m 1000 (fun i => (nI i, h)) (by omega) (fun j hj => by rw [step j (by omega), if_pos (hlo j hj)]) (by rw [step m hm, if_neg hno])
    have this : dnIt 1000 (fX3_standsAt_b2 (some 281) w (nI p)) 0 h = some (.inr false, h) := this
    rw [decide_eq_false (fun hall => hno (hall m hm))]
    simp only [fX3_standsAt, dnB_eval, this, Sum.elim_inr, dnP]
def wcd (w : Nat) : Int32 := if w < 14 then nI w else -9
theorem wordAt_c {h : dnH} {t : Nat → Nat} {n p : Nat} (hs : Sh h) (x : Tx h t n) (hn : n ≤ 80) (ht : ∀ i, i < n → t i < 256) (hp : p ≤ n) : fX3_wordAt (some 281) (nI p) h = some (wcd (wdI t p (rn t n 97 122 p - p)), h) := by
  obtain ⟨r1, r2, r3, r4⟩ := rn_sp (t := t) (lo := 97) (hi := 122) hp
  obtain ⟨-, el, -⟩ := ends_c hs x hn ht hp
  obtain ⟨m, em⟩ : ∃ m, m = rn t n 97 122 p - p := ⟨_, rfl⟩
  have es : nI (rn t n 97 122 p) - nI p = nI m := by rw [nI_sub r1, em]
  have step : ∀ w, w < 14 → fX3_wordAt_b10 (some 281) (nI p) (nI m) (nI w) h = if eqW t p m w = true then some (.inr (.inr (nI w)), h) else some (.inl (nI (w + 1)), h) := fun w hw => by
    obtain ⟨w1, w2, w3, w4, w5, w6⟩ := wfacts w hw
    have hc : ¬ (Int32.ofNat 14 ≤ nI w) := fun hc => by have := (nI_leI (a := 14) (b := w) (by omega) (by omega)).mp hc; omega
    have ee : (nI (dnWl w) = nI m) ↔ dnWl w = m := nI_eq (by omega) (by omega)
    by_cases q : dnWl w = m
    · have sa := stands_c (p := p) hs x hn ht hw (by omega)
      have ew : eqW t p m w = decide (∀ i, i < dnWl w → t (p + i) = lt w i) := by
        rw [Bool.eq_iff_iff, eqW_iff, decide_eq_true_iff]
        exact ⟨fun h => h.2, fun h => ⟨q.symm, h⟩⟩
      rw [← ew] at sa
      simp only [fX3_wordAt_b10, fX3_wordAt_j51, hc, if_false, dnB_eval, dnXW_A hw, dnSk_A hw, w1, ee, q, not_true_eq_false, v_281 hs, sa]
      cases eqW t p m w with
      | true => simp only [if_true, dnP]
      | false => simp only [Bool.false_eq_true, if_false, dnP, nI_1]
    · have ew : ¬ eqW t p m w = true := fun hc => q (eqW_iff.mp hc).1.symm
      simp only [fX3_wordAt_b10, fX3_wordAt_j51, hc, if_false, dnB_eval, dnXW_A hw, dnSk_A hw, w1, ee, q, not_false_eq_true, if_true, ew, Bool.false_eq_true, dnP, nI_1]
  have h14 : Int32.ofNat 14 ≤ nI 14 := by decide
  rw [← em]
  rcases wdI_cases t p m with ⟨e, hf⟩ | ⟨hw, h1, h2⟩
  · have := dnIt_run (f := fX3_wordAt_b10 (some 281) (nI p) (nI m)) (q := .inl ()) (hq := h) 14 1000 (fun i => (nI i, h)) (by omega) (fun j hj => by rw [step j hj, hf j hj]; rfl) (by simp only [fX3_wordAt_b10, h14, if_true, dnP])
    have this : dnIt 1000 (fX3_wordAt_b10 (some 281) (nI p) (nI m)) 0 h = some (.inl (), h) := this
    rw [e]
    simp only [fX3_wordAt, dnB_eval, v_281 hs, el, es, this, Sum.elim_inl, dnP]
    rfl
  · have := dnIt_run (f := fX3_wordAt_b10 (some 281) (nI p) (nI m)) (q := .inr (nI (wdI t p m))) (hq := h) (wdI t p m) 1000 (fun i => (nI i, h)) (by omega) (fun j hj => by rw [step j (by omega), h2 j hj]; rfl) (by rw [step _ hw, h1]; rfl)
    have this : dnIt 1000 (fX3_wordAt_b10 (some 281) (nI p) (nI m)) 0 h = some (.inr (nI (wdI t p m)), h) := this
    have ec : wcd (wdI t p m) = nI (wdI t p m) := if_pos hw
    rw [ec]
    simp only [fX3_wordAt, dnB_eval, v_281 hs, el, es, this, Sum.elim_inr, dnP]
/-- numbers -/
def dg (t : Nat → Nat) (p : Nat) : Nat → Nat
  | 0 => 0
  | j + 1 => 10 * dg t p j + t (p + j) - 48
theorem numberIn_c {h : dnH} {t : Nat → Nat} {n p e : Nat} (hs : Sh h) (x : Tx h t n) (hn : n ≤ 80) (ht : ∀ i, i < n → t i < 256) (hp : p ≤ e) (he : e ≤ n) (hd : ∀ i, p ≤ i → i < e → 48 ≤ t i) : fX3_numberIn (some 281) (nI p) (nI e) h = some (nI (dg t p (e - p)), h) := by
  have key := dnIt_run (f := fX3_numberIn_b5 (some 281) (nI e)) (q := nI (dg t p (e - p))) (hq := h) (e - p) 1000 (fun j => ((nI (dg t p j), nI (p + j)), h)) (by omega) (fun j hj => by
    have hc : ¬ (nI e ≤ nI (p + j)) := fun hc => by have := (nI_leI (a := e) (b := p + j) (by omega) (by omega)).mp hc; omega
    have ej : nI (p + j + 1) = nI (p + (j + 1)) := rfl
    have h48 := hd (p + j) (by omega) (by omega)
    have ev : ((10 : Int32) * nI (dg t p j) + nI (t (p + j))) - 48 = nI (dg t p (j + 1)) := by
      rw [show (10 : Int32) = nI 10 from rfl, nI_mul, nI_add, show (48 : Int32) = nI 48 from rfl, nI_sub (by omega)]
      rfl
    simp only [fX3_numberIn_b5, hc, if_false, dnB_eval, g_281_0 hs, tx_A hs x hn (show p + j < n by omega), ev, dnP, nI_1, ej]) (by
    have hc : nI e ≤ nI (p + (e - p)) := by rw [show p + (e - p) = e by omega]; exact Int32.le_refl _
    simp only [fX3_numberIn_b5, hc, if_true, dnP])
  have key : dnIt 1000 (fX3_numberIn_b5 (some 281) (nI e)) (0, nI p) h = some (nI (dg t p (e - p)), h) := key
  simp only [fX3_numberIn, dnB_eval, key, dnP]
def nP (t : Nat → Nat) (n p0 : Nat) : Nat → Nat
  | 0 => p0
  | j + 1 => rn t n 32 32 (rn t n 48 57 (nP t n p0 j))
def okN (t : Nat → Nat) (n p0 j : Nat) : Bool := decide (rn t n 48 57 (nP t n p0 j) ≠ nP t n p0 j ∧ rn t n 48 57 (nP t n p0 j) ≤ nP t n p0 j + 2)
def nV (t : Nat → Nat) (n p0 j : Nat) : Nat := dg t (nP t n p0 j) (rn t n 48 57 (nP t n p0 j) - nP t n p0 j)
theorem nP_le {t : Nat → Nat} {n p0 : Nat} (hp : p0 ≤ n) : ∀ j, nP t n p0 j ≤ n := by
  intro j
  induction j with
  | zero => exact hp
  | succ j ih => exact (rn_sp ((rn_sp ih).2.1)).2.1
def p1O (t : Nat → Nat) (n p : Nat) : Nat := rn t n 32 32 (rn t n 97 122 p)
def wO (t : Nat → Nat) (n p : Nat) : Nat := wdI t p (rn t n 97 122 p - p)
def qO (t : Nat → Nat) (n p : Nat) : Nat := nP t n (p1O t n p) (cnW (wO t n p))
def sOk (t : Nat → Nat) (n p : Nat) : Bool := decide (wO t n p < 14) && ((List.range (cnW (wO t n p))).all (okN t n (p1O t n p)) && decide (qO t n p < n ∧ t (qO t n p) = 59))
def flO (t : Nat → Nat) (n p : Nat) : Nat := if wO t n p < 14 then (match (List.range (cnW (wO t n p))).find? (fun j => !okN t n (p1O t n p) j) with | some j => nP t n (p1O t n p) j | none => qO t n p) else p
def nxt (t : Nat → Nat) (n p : Nat) : Nat := rn t n 32 32 (qO t n p + 1)
def Qs (t : Nat → Nat) (n : Nat) : Nat → Nat
  | 0 => rn t n 32 32 0
  | k + 1 => nxt t n (Qs t n k)
theorem p1_le {t : Nat → Nat} {n p : Nat} (hp : p ≤ n) : p1O t n p ≤ n := (rn_sp (rn_sp hp).2.1).2.1
/-- a step, its cases -/
theorem step_cases {t : Nat → Nat} {n p : Nat} : (¬ wO t n p < 14 ∧ sOk t n p = false ∧ flO t n p = p) ∨ (wO t n p < 14 ∧ ((∃ j, j < cnW (wO t n p) ∧ okN t n (p1O t n p) j = false ∧ (∀ i, i < j → okN t n (p1O t n p) i = true) ∧ sOk t n p = false ∧ flO t n p = nP t n (p1O t n p) j) ∨ ((∀ i, i < cnW (wO t n p) → okN t n (p1O t n p) i = true) ∧ ((¬ (qO t n p < n ∧ t (qO t n p) = 59) ∧ sOk t n p = false ∧ flO t n p = qO t n p) ∨ ((qO t n p < n ∧ t (qO t n p) = 59) ∧ sOk t n p = true))))) := by
  by_cases c : wO t n p < 14
  · right
    refine ⟨c, ?_⟩
    rcases first_of (fun j => !okN t n (p1O t n p) j) (cnW (wO t n p)) with hf | ⟨j, hj, h1, h2⟩
    · right
      have hall : ∀ i, i < cnW (wO t n p) → okN t n (p1O t n p) i = true := fun i hi => by simpa using hf i hi
      have ha : (List.range (cnW (wO t n p))).all (okN t n (p1O t n p)) = true := List.all_eq_true.mpr (fun i hi => hall i (List.mem_range.mp hi))
      refine ⟨hall, ?_⟩
      by_cases q : qO t n p < n ∧ t (qO t n p) = 59
      · right
        refine ⟨q, ?_⟩
        unfold sOk
        rw [decide_eq_true c, ha, decide_eq_true q]
        rfl
      · left
        refine ⟨q, ?_, ?_⟩
        · unfold sOk
          rw [decide_eq_true c, ha, decide_eq_false q]
          rfl
        · unfold flO
          rw [if_pos c, List.find?_eq_none.mpr (fun i hi => by rw [hall i (List.mem_range.mp hi)]; decide)]
    · left
      have hno : okN t n (p1O t n p) j = false := by simpa using h1
      have hlo : ∀ i, i < j → okN t n (p1O t n p) i = true := fun i hi => by simpa using h2 i hi
      refine ⟨j, hj, hno, hlo, ?_, ?_⟩
      · unfold sOk
        have : (List.range (cnW (wO t n p))).all (okN t n (p1O t n p)) = false := by
          rw [← Bool.not_eq_true, List.all_eq_true]
          intro hc
          rw [hc j (List.mem_range.mpr hj)] at hno
          cases hno
        rw [this, Bool.false_and, Bool.and_false]
      · unfold flO
        rw [if_pos c]
        cases hfd : (List.range (cnW (wO t n p))).find? (fun j => !okN t n (p1O t n p) j) with
        | none =>
          have := List.find?_eq_none.mp hfd j (List.mem_range.mpr hj)
          rw [hno] at this
          exact absurd rfl this
        | some i =>
          have hi1 : okN t n (p1O t n p) i = false := by simpa using List.find?_some hfd
          have hi2 : i < cnW (wO t n p) := List.mem_range.mp (List.mem_of_find?_eq_some hfd)
          have hge : ¬ i < j := fun hc => by rw [hlo i hc] at hi1; cases hi1
          have hle : ¬ j < i := fun hc => by
            obtain ⟨-, as, bs, e2, e3⟩ := List.find?_eq_some_iff_append.mp hfd
            have hlen : as.length = i := by
              have e1 : (List.range (cnW (wO t n p)))[as.length]? = some i := by rw [e2]; simp
              rw [List.getElem?_range] at e1
              · exact Option.some.inj e1
              · have : (List.range (cnW (wO t n p))).length = as.length + (i :: bs).length := by rw [e2, List.length_append]
                simp at this
                omega
            have hmem : j ∈ as := by
              have e4 : (List.range (cnW (wO t n p)))[j]? = some j := List.getElem?_range hj
              rw [e2, List.getElem?_append_left (by omega)] at e4
              exact List.mem_of_getElem? e4
            have := e3 j hmem
            rw [hno] at this
            cases this
          rw [show i = j by omega]
  · left
    refine ⟨c, ?_, ?_⟩
    · unfold sOk
      rw [decide_eq_false c]
      rfl
    · unfold flO
      rw [if_neg c]
