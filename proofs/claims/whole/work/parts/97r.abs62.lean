/-! ABS 62: plan: the class reads the text -/
theorem Tx.go {P : Nat → Prop} {h h2 : dnH} {t : Nat → Nat} {n : Nat} (e : Eqc P h h2) (p1 : P 281) (p2 : P 282) (x : Tx h t n) : Tx h2 t n := by
  unfold Tx
  rw [(e.2.2 281 p1).1, (e.2.2 282 p2).1]
  exact x
theorem nums_c {h : dnH} {t : Nat → Nat} {n k w p N : Nat} (hs : Sh h) (x : Tx h t n) (hn : n ≤ 80) (ht : ∀ i, i < n → t i < 256) (hp : p ≤ n) (hw : w < 14) (hk : k < 8) (hN : N ≤ cnW w) (hok : ∀ i, i < N → okN t n p i = true) (hend : N = cnW w ∨ (N < cnW w ∧ okN t n p N = false)) : ∃ h2, dnIt 1000 (fX3_parse_b59 (some 281) (nI k) (nI w)) (nI p, 0) h = some ((if N = cnW w then .inl (nI (nP t n p N)) else .inr (-20 - nI (nP t n p N))), h2) ∧ Eqc (fun c => c ≠ 284) h h2 ∧ (∀ i, i < N → h2.2.1 284 (5 * k + i) = nI (nV t n p i)) ∧ ∀ y, (y < 5 * k ∨ 5 * k + 5 ≤ y) → h2.2.1 284 y = h.2.1 284 y := by
  obtain ⟨w1, w2, w3, w4, w5, w6⟩ := wfacts w hw
  have KK := it_inv (f := fX3_parse_b59 (some 281) (nI k) (nI w)) (Q := fun q h2 => q = (if N = cnW w then Sum.inl (nI (nP t n p N)) else .inr (-20 - nI (nP t n p N))) ∧ Eqc (fun c => c ≠ 284) h h2 ∧ (∀ i, i < N → h2.2.1 284 (5 * k + i) = nI (nV t n p i)) ∧ ∀ y, (y < 5 * k ∨ 5 * k + 5 ≤ y) → h2.2.1 284 y = h.2.1 284 y) (fun j u h2 => u = (nI (nP t n p j), nI j) ∧ Eqc (fun c => c ≠ 284) h h2 ∧ (∀ i, i < j → h2.2.1 284 (5 * k + i) = nI (nV t n p i)) ∧ ∀ y, (y < 5 * k ∨ 5 * k + 5 ≤ y) → h2.2.1 284 y = h.2.1 284 y) N 1000 0 (by omega) (by omega) ?_ ?_ (nI p, nI 0) h ⟨rfl, Eqc.rf, fun i hi => by omega, fun _ _ => rfl⟩
  · obtain ⟨q, h2, b1, rfl, b2⟩ := KK
    exact ⟨h2, b1, b2⟩
  · rintro j u k2 hj ⟨rfl, ek, f1, f2⟩
    left
    have sk := ek.sh hs
    have xk := x.go ek (by decide) (by decide)
    have pj := nP_le (t := t) hp j
    obtain ⟨o1, o2⟩ := of_decide_eq_true (hok j hj)
    obtain ⟨r1, r2, r3, r4⟩ := rn_sp (t := t) (lo := 48) (hi := 57) pj
    obtain ⟨ed, -, -⟩ := ends_c sk xk hn ht pj
    have hc : ¬ (nI (cnW w) ≤ nI j) := fun hc => by have := (nI_leI (a := cnW w) (b := j) (by omega) (by omega)).mp hc; omega
    have n1 : ¬ nI (rn t n 48 57 (nP t n p j)) = nI (nP t n p j) := fun hc => o1 ((nI_eq (by omega) (by omega)).mp hc)
    have e2 : nI (nP t n p j) + 2 = nI (nP t n p j + 2) := nI_add (a := nP t n p j) (b := 2)
    have n2 : nI (rn t n 48 57 (nP t n p j)) ≤ nI (nP t n p j + 2) := (nI_leI (by omega) (by omega)).mpr o2
    have nu := numberIn_c sk xk hn ht r1 r2 (fun i h1 h2 => by
      have := (of_decide_eq_true (r3 i h1 h2)).2.1
      exact this)
    have nu : fX3_numberIn (some 281) (nI (nP t n p j)) (nI (rn t n 48 57 (nP t n p j))) k2 = some (nI (nV t n p j), k2) := nu
    have ei : nI k * 5 + nI j = nI (5 * k + j) := by rw [show (5 : Int32) = nI 5 from rfl, nI_mul, nI_add, Nat.mul_comm]
    have ti : dnTI (some 284) 100 (nI (5 * k + j)) (nI (nV t n p j)) k2 = some ((), dnSI k2 284 (5 * k + j) (nI (nV t n p j))) := by
      rw [t_284 sk, dnIn_nI (show 5 * k + j < 40 by omega) (by decide), nI_clamp (by omega)]
      rfl
    have s2 : Sh (dnSI k2 284 (5 * k + j) (nI (nV t n p j))) := sk
    have E2 : Eqc (fun c => c ≠ 284) k2 (dnSI k2 284 (5 * k + j) (nI (nV t n p j))) := eqc_SI (fun hc => hc rfl)
    obtain ⟨-, -, esp⟩ := ends_c s2 (xk.go E2 (by decide) (by decide)) hn ht r2
    refine ⟨(nI (nP t n p (j + 1)), nI (j + 1)), dnSI k2 284 (5 * k + j) (nI (nV t n p j)), ?_, rfl, ek.tr E2, fun i hi => ?_, fun y hy => ?_⟩
    · simp only [fX3_parse_b59, dnB_eval, dnXW_A hw, dnSk_A hw, w4, hc, if_false, v_281 sk, ed, n1, e2, n2, if_true, g_281_3 sk, nu, ei, ti, v_281 s2, esp, dnP, nI_1]
      rfl
    · have e : (dnSI k2 284 (5 * k + j) (nI (nV t n p j))).2.1 284 (5 * k + i) = if i = j then nI (nV t n p j) else k2.2.1 284 (5 * k + i) := by simp [dnSI, dnUp]
      rw [e]
      by_cases q : i = j
      · rw [if_pos q, q]
      · rw [if_neg q]; exact f1 i (by omega)
    · have ne : y ≠ 5 * k + j := by omega
      have e : (dnSI k2 284 (5 * k + j) (nI (nV t n p j))).2.1 284 y = k2.2.1 284 y := by simp [dnSI, dnUp, ne]
      rw [e]; exact f2 y hy
  · rintro u k2 ⟨rfl, ek, f1, f2⟩
    have sk := ek.sh hs
    have xk := x.go ek (by decide) (by decide)
    have pj := nP_le (t := t) hp N
    obtain ⟨r1, r2, r3, r4⟩ := rn_sp (t := t) (lo := 48) (hi := 57) pj
    obtain ⟨ed, -, -⟩ := ends_c sk xk hn ht pj
    rcases hend with rfl | ⟨h1, h2⟩
    · refine ⟨_, k2, ?_, rfl, ek, f1, f2⟩
      rw [if_pos rfl]
      simp only [fX3_parse_b59, dnB_eval, dnXW_A hw, dnSk_A hw, w4, Int32.le_refl, if_true, dnP]
    · refine ⟨_, k2, ?_, rfl, ek, f1, f2⟩
      have ne : ¬ N = cnW w := by omega
      rw [if_neg ne]
      have hc : ¬ (nI (cnW w) ≤ nI N) := fun hc => by have := (nI_leI (a := cnW w) (b := N) (by omega) (by omega)).mp hc; omega
      have h2 := of_decide_eq_false h2
      by_cases q : rn t n 48 57 (nP t n p N) = nP t n p N
      · simp only [fX3_parse_b59, fX3_parse_j93, dnB_eval, dnXW_A hw, dnSk_A hw, w4, hc, if_false, v_281 sk, ed, q, if_true, dnP]
      · have n1 : ¬ nI (rn t n 48 57 (nP t n p N)) = nI (nP t n p N) := fun hc => q ((nI_eq (by omega) (by omega)).mp hc)
        have e2 : nI (nP t n p N) + 2 = nI (nP t n p N + 2) := nI_add (a := nP t n p N) (b := 2)
        have n2 : ¬ nI (rn t n 48 57 (nP t n p N)) ≤ nI (nP t n p N + 2) := fun hc => h2 ⟨q, (nI_leI (by omega) (by omega)).mp hc⟩
        simp only [fX3_parse_b59, fX3_parse_j93, dnB_eval, dnXW_A hw, dnSk_A hw, w4, hc, if_false, v_281 sk, ed, n1, e2, n2, dnP]
theorem step_c {h : dnH} {t : Nat → Nat} {n k p : Nat} (hs : Sh h) (x : Tx h t n) (hn : n ≤ 80) (ht : ∀ i, i < n → t i < 256) (hp : p < n) (hk : k < 8) : ∃ h2, fX3_parse_b8 (some 281) (nI k, nI p) h = some ((if sOk t n p = true then .inl (nI (k + 1), nI (nxt t n p)) else .inr (.inr (-20 - nI (flO t n p)))), h2) ∧ Eqc (fun c => c ≠ 283 ∧ c ≠ 284) h h2 ∧ (∀ y, y ≠ k → h2.2.1 283 y = h.2.1 283 y) ∧ (∀ y, (y < 5 * k ∨ 5 * k + 5 ≤ y) → h2.2.1 284 y = h.2.1 284 y) ∧ (sOk t n p = true → h2.2.1 283 k = nI (wO t n p) ∧ ∀ i, i < cnW (wO t n p) → h2.2.1 284 (5 * k + i) = nI (nV t n (p1O t n p) i)) := by
  have c8 : ¬ ((8 : Int32) ≤ nI k) := fun hc => by have := (nI_leI (a := 8) (b := k) (by omega) (by omega)).mp hc; omega
  have cn : ¬ (nI n ≤ nI p) := fun hc => by have := (nI_leI (a := n) (b := p) (by omega) (by omega)).mp hc; omega
  have wa := wordAt_c hs x hn ht (show p ≤ n by omega)
  have wa : fX3_wordAt (some 281) (nI p) h = some (wcd (wO t n p), h) := wa
  rcases step_cases (t := t) (n := n) (p := p) with ⟨hw, s1, s2⟩ | ⟨hw, hrest⟩
  · have ew : wcd (wO t n p) = -9 := if_neg hw
    rw [ew] at wa
    refine ⟨h, ?_, Eqc.rf, fun _ _ => rfl, fun _ _ => rfl, fun hc => by rw [s1] at hc; cases hc⟩
    rw [s1, s2]
    simp only [fX3_parse_b8, c8, if_false, dnB_eval, g_281_1 hs, x.1, cn, v_281 hs, wa, not_true_eq_false, dnP, Bool.false_eq_true]
  have ew : wcd (wO t n p) = nI (wO t n p) := if_pos hw
  rw [ew] at wa
  have n9 : ¬ nI (wO t n p) = -9 := fun hc => by
    have := congrArg Int32.toInt hc
    rw [nI_toInt (by omega)] at this
    have e9 : (-9 : Int32).toInt = -9 := rfl
    omega
  have t3 : dnTI (some 283) 100 (nI k) (nI (wO t n p)) h = some ((), dnSI h 283 k (nI (wO t n p))) := by
    rw [t_283 hs, dnIn_nI hk (by decide), nI_clamp (by omega)]
    rfl
  obtain ⟨g, eg⟩ : ∃ g, g = dnSI h 283 k (nI (wO t n p)) := ⟨_, rfl⟩
  have E1 : Eqc (fun c => c ≠ 283) h g := by rw [eg]; exact eqc_SI (fun hc => hc rfl)
  rw [← eg] at t3
  have sg' := E1.sh hs
  have xg := x.go E1 (by decide) (by decide)
  obtain ⟨-, el, -⟩ := ends_c sg' xg hn ht (show p ≤ n by omega)
  obtain ⟨r1, r2, r3, r4⟩ := rn_sp (t := t) (lo := 97) (hi := 122) (show p ≤ n by omega)
  obtain ⟨-, -, es⟩ := ends_c sg' xg hn ht r2
  have es : fX3_endOfSpaces (some 281) (nI (rn t n 97 122 p)) g = some (nI (p1O t n p), g) := es
  have p1n : p1O t n p ≤ n := p1_le (by omega)
  have w3 : g.2.1 283 k = nI (wO t n p) := by rw [eg]; simp [dnSI, dnUp]
  have w3o : ∀ y, y ≠ k → g.2.1 283 y = h.2.1 283 y := fun y hy => by rw [eg]; simp [dnSI, dnUp, hy]
  have g284 : g.2.1 284 = h.2.1 284 := (E1.2.2 284 (by decide)).1
  have head : ∀ (o : (Int32 × Int32) ⊕ ((Int32 × Int32) ⊕ Int32)) (h2 : dnH), (match dnIt 1000 (fX3_parse_b59 (some 281) (nI k) (nI (wO t n p))) (nI (p1O t n p), 0) g with | none => none | some q => (Sum.elim (fun q59 => dnB (dnGI (some 281) 2 1) fun v13 =>
      if q59 = v13 then (fX3_parse_j148 q59) else (dnB (dnGR (some 281) 2 0) fun v14 => dnB (dnAI v14 101 q59) fun v15 => if v15 = 59 then (dnB (dnCv (some 281) 2 (fX3_endOfSpaces (some 281) (q59 + 1))) fun v16 => dnP (.inl ((nI k + 1), v16))) else (fX3_parse_j148 q59))) (fun v_ => dnP (.inr (.inr v_))) q.1 : dnM ((Int32 × Int32) ⊕ ((Int32 × Int32) ⊕ Int32))) q.2) = some (o, h2) → fX3_parse_b8 (some 281) (nI k, nI p) h = some (o, h2) := fun o h2 e => by
    rw [← e]
    simp only [fX3_parse_b8, c8, if_false, dnB_eval, g_281_1 hs, x.1, cn, v_281 hs, wa, n9, not_false_eq_true, if_true, g_281_2 hs, t3, v_281 sg', el, es]
    cases dnIt 1000 (fX3_parse_b59 (some 281) (nI k) (nI (wO t n p))) (nI (p1O t n p), 0) g <;> rfl
  have fr : ∀ {h2 : dnH}, Eqc (fun c => c ≠ 284) g h2 → (∀ y, (y < 5 * k ∨ 5 * k + 5 ≤ y) → h2.2.1 284 y = g.2.1 284 y) → Eqc (fun c => c ≠ 283 ∧ c ≠ 284) h h2 ∧ (∀ y, y ≠ k → h2.2.1 283 y = h.2.1 283 y) ∧ (∀ y, (y < 5 * k ∨ 5 * k + 5 ≤ y) → h2.2.1 284 y = h.2.1 284 y) := fun {h2} e f => ⟨(E1.im (fun c hc => hc.1)).tr (e.im (fun c hc => hc.2)), fun y hy => by rw [(e.2.2 283 (by decide)).1]; exact w3o y hy, fun y hy => by rw [f y hy, g284]⟩
  rcases hrest with ⟨j, hj, j1, j2, s1, s2⟩ | ⟨hall, hq⟩
  · obtain ⟨h2, y1, y2, y3, y4⟩ := nums_c sg' xg hn ht p1n hw hk (Nat.le_of_lt hj) j2 (.inr ⟨hj, j1⟩)
    rw [if_neg (show ¬ j = cnW (wO t n p) by omega)] at y1
    obtain ⟨f1, f2, f3⟩ := fr y2 y4
    refine ⟨h2, ?_, f1, f2, f3, fun hc => by rw [s1] at hc; cases hc⟩
    rw [s1, s2]
    refine head _ _ ?_
    rw [y1]
    rfl
  · obtain ⟨h2, y1, y2, y3, y4⟩ := nums_c sg' xg hn ht p1n hw hk (Nat.le_refl _) hall (.inl rfl)
    rw [if_pos rfl] at y1
    obtain ⟨f1, f2, f3⟩ := fr y2 y4
    have s2' := y2.sh sg'
    have x2 := xg.go y2 (by decide) (by decide)
    have qn : qO t n p ≤ n := nP_le p1n _
    have y1 : dnIt 1000 (fX3_parse_b59 (some 281) (nI k) (nI (wO t n p))) (nI (p1O t n p), 0) g = some (.inl (nI (qO t n p)), h2) := y1
    refine ⟨h2, head _ _ ?_, f1, f2, f3, fun _ => ⟨by rw [(y2.2.2 283 (by decide)).1]; exact w3, y3⟩⟩
    rw [y1]
    rcases hq with ⟨hq, s1, sx⟩ | ⟨⟨q1, q2⟩, s1⟩
    · rw [s1, sx]
      by_cases c : qO t n p = n
      · have ec : nI (qO t n p) = nI n := by rw [c]
        simp only [Sum.elim_inl, dnB_eval, g_281_1 s2', x2.1, ec, if_true, fX3_parse_j148, dnP, Bool.false_eq_true, if_false]
      · have nc : ¬ nI (qO t n p) = nI n := fun hc => c ((nI_eq (by omega) (by omega)).mp hc)
        have tq := ht (qO t n p) (by omega)
        have n59 : ¬ nI (t (qO t n p)) = 59 := fun hc => hq ⟨by omega, (nI_eq (b := 59) (by omega) (by decide)).mp hc⟩
        simp only [Sum.elim_inl, dnB_eval, g_281_1 s2', x2.1, nc, if_false, g_281_0 s2', tx_A s2' x2 hn (show qO t n p < n by omega), n59, fX3_parse_j148, dnP, Bool.false_eq_true]
    · rw [s1, if_pos rfl]
      have nc : ¬ nI (qO t n p) = nI n := fun hc => by have := (nI_eq (by omega) (by omega)).mp hc; omega
      have e59 : nI (t (qO t n p)) = 59 := by rw [q2]; rfl
      obtain ⟨-, -, e3⟩ := ends_c s2' x2 hn ht (show qO t n p + 1 ≤ n by omega)
      have e3 : fX3_endOfSpaces (some 281) (nI (qO t n p + 1)) h2 = some (nI (nxt t n p), h2) := e3
      simp only [Sum.elim_inl, dnB_eval, g_281_1 s2', x2.1, nc, if_false, g_281_0 s2', tx_A s2' x2 hn q1, e59, if_true, v_281 s2', nI_1, e3, dnP]
theorem Qs_le {t : Nat → Nat} {n k : Nat} (hj : ∀ j, j < k → Qs t n j < n ∧ sOk t n (Qs t n j) = true) : ∀ j, j ≤ k → Qs t n j ≤ n := by
  intro j
  induction j with
  | zero => intro _; exact (rn_sp (Nat.zero_le _)).2.1
  | succ j ih =>
    intro h
    obtain ⟨h1, h2⟩ := hj j (by omega)
    have hq : qO t n (Qs t n j) < n := by
      rcases step_cases (t := t) (n := n) (p := Qs t n j) with ⟨-, s1, -⟩ | ⟨-, ⟨i, -, -, -, s1, -⟩ | ⟨-, ⟨-, s1, -⟩ | ⟨⟨q1, -⟩, -⟩⟩⟩
      · rw [s1] at h2; cases h2
      · rw [s1] at h2; cases h2
      · rw [s1] at h2; cases h2
      · exact q1
    exact (rn_sp (show qO t n (Qs t n j) + 1 ≤ n by omega)).2.1
def pv (t : Nat → Nat) (n k : Nat) : Int32 := if n ≤ Qs t n k then nI k else if k = 8 then -20 - nI (Qs t n k) else -20 - nI (flO t n (Qs t n k))
def StK (h : dnH) (a b : Nat) (t : Nat → Nat) (n k : Nat) : Prop := ∀ j, j < k → h.2.1 a j = nI (wO t n (Qs t n j)) ∧ ∀ i, i < cnW (wO t n (Qs t n j)) → h.2.1 b (5 * j + i) = nI (nV t n (p1O t n (Qs t n j)) i)
theorem parse_c {h : dnH} {t : Nat → Nat} {n k : Nat} (hs : Sh h) (x : Tx h t n) (hn : n ≤ 80) (ht : ∀ i, i < n → t i < 256) (hk : k ≤ 8) (hj : ∀ j, j < k → Qs t n j < n ∧ sOk t n (Qs t n j) = true) (hend : n ≤ Qs t n k ∨ k = 8 ∨ sOk t n (Qs t n k) = false) : ∃ h2, fX3_parse (some 281) h = some (pv t n k, h2) ∧ Eqc (fun c => c ≠ 283 ∧ c ≠ 284) h h2 ∧ (n ≤ Qs t n k → StK h2 283 284 t n k) := by
  have ql := Qs_le hj
  obtain ⟨-, -, e0⟩ := ends_c hs x hn ht (Nat.zero_le n)
  have e0 : fX3_endOfSpaces (some 281) 0 h = some (nI (Qs t n 0), h) := e0
  have KK := it_inv (f := fX3_parse_b8 (some 281)) (Q := fun q h2 => Eqc (fun c => c ≠ 283 ∧ c ≠ 284) h h2 ∧ (n ≤ Qs t n k → StK h2 283 284 t n k) ∧ ((q = .inl (nI k, nI (Qs t n k)) ∧ (n ≤ Qs t n k ∨ k = 8)) ∨ (q = .inr (pv t n k) ∧ ¬ n ≤ Qs t n k))) (fun j u h2 => u = (nI j, nI (Qs t n j)) ∧ Eqc (fun c => c ≠ 283 ∧ c ≠ 284) h h2 ∧ StK h2 283 284 t n j) k 1000 0 (by omega) (by omega) ?_ ?_ (nI 0, nI (Qs t n 0)) h ⟨rfl, Eqc.rf, fun j hj => by omega⟩
  · obtain ⟨q, h2, b1, b2, b3, b4⟩ := KK
    rw [nI_0] at b1
    refine ⟨h2, ?_, b2, b3⟩
    have s2 := b2.sh hs
    have x2 := x.go b2 (by decide) (by decide)
    rcases b4 with ⟨rfl, b4⟩ | ⟨rfl, b4⟩
    · have qk := ql k (Nat.le_refl _)
      simp only [fX3_parse, dnB_eval, v_281 hs, e0, b1, Sum.elim_inl, fX3_parse_j167, g_281_1 s2, x2.1]
      unfold pv
      by_cases c : n ≤ Qs t n k
      · have : Qs t n k = n := by omega
        rw [if_pos c, this]
        simp only [not_true_eq_false, if_false, dnP]
      · have nc : ¬ nI (Qs t n k) = nI n := fun hc => by have := (nI_eq (by omega) (by omega)).mp hc; omega
        have k8 : k = 8 := by omega
        rw [if_neg c, if_pos k8]
        simp only [nc, not_false_eq_true, if_true, dnP]
    · simp only [fX3_parse, dnB_eval, v_281 hs, e0, b1, Sum.elim_inr, dnP]
  · rintro j u k2 hjk ⟨rfl, ek, sp⟩
    left
    obtain ⟨q1, q2⟩ := hj j hjk
    obtain ⟨h2, y1, y2, y3, y4, y5⟩ := step_c (k := j) (ek.sh hs) (x.go ek (by decide) (by decide)) hn ht q1 (by omega)
    rw [if_pos q2] at y1
    refine ⟨_, h2, y1, rfl, ek.tr y2, fun i hi => ?_⟩
    by_cases c : i = j
    · rw [c]; exact y5 q2
    · obtain ⟨z1, z2⟩ := sp i (by omega)
      refine ⟨by rw [y3 i c]; exact z1, fun m hm => ?_⟩
      have mw : cnW (wO t n (Qs t n i)) ≤ 5 := by
        by_cases cw : wO t n (Qs t n i) < 14
        · exact (wfacts _ cw).2.2.2.2.1
        · have := (hj i (by omega)).2
          rcases step_cases (t := t) (n := n) (p := Qs t n i) with ⟨-, s1, -⟩ | ⟨hw, -⟩
          · rw [s1] at this; cases this
          · exact absurd hw cw
      rw [y4 (5 * i + m) (by omega)]
      exact z2 m hm
  · rintro u k2 ⟨rfl, ek, sp⟩
    have sk := ek.sh hs
    have xk := x.go ek (by decide) (by decide)
    by_cases c8 : k = 8
    · have h8 : (8 : Int32) ≤ nI k := by rw [c8]; decide
      exact ⟨_, k2, by simp only [fX3_parse_b8, h8, if_true, dnP], ek, fun _ => sp, .inl ⟨rfl, .inr c8⟩⟩
    · have h8 : ¬ ((8 : Int32) ≤ nI k) := fun hc => by have := (nI_leI (a := 8) (b := k) (by omega) (by omega)).mp hc; omega
      by_cases cn : n ≤ Qs t n k
      · have hc : nI n ≤ nI (Qs t n k) := (nI_leI (by omega) (by have := ql k (Nat.le_refl _); omega)).mpr cn
        exact ⟨_, k2, by simp only [fX3_parse_b8, h8, if_false, dnB_eval, g_281_1 sk, xk.1, hc, if_true, dnP], ek, fun _ => sp, .inl ⟨rfl, .inl cn⟩⟩
      · have sf : sOk t n (Qs t n k) = false := by
          rcases hend with h | h | h
          · exact absurd h cn
          · exact absurd h c8
          · exact h
        obtain ⟨h2, y1, y2, y3, y4, y5⟩ := step_c (k := k) sk xk hn ht (show Qs t n k < n by omega) (by omega)
        rw [sf, if_neg (by decide)] at y1
        refine ⟨.inr (-20 - nI (flO t n (Qs t n k))), h2, y1, ek.tr y2, fun hc => absurd hc cn, .inr ⟨?_, cn⟩⟩
        unfold pv
        rw [if_neg cn, if_neg c8]
