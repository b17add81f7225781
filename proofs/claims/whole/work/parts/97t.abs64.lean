/-! ABS 64: plan: the reference reads all of the text -/
def RB (h h2 : dnH) : Prop := Eqc (fun x => x ≠ 289 ∧ x ≠ 317 ∧ x ≠ 318) h h2 ∧ (∀ k, k ≠ 38 → k ≠ 39 → k ≠ 40 → h2.2.1 289 k = h.2.1 289 k) ∧ h2.2.2.1 289 = h.2.2.1 289 ∧ h2.2.2.2.1 289 = h.2.2.2.1 289
theorem rb_rf {h : dnH} : RB h h := ⟨Eqc.rf, fun _ _ _ _ => rfl, rfl, rfl⟩
theorem RB.tr {h h2 h3 : dnH} (a : RB h h2) (b : RB h2 h3) : RB h h3 := ⟨a.1.tr b.1, fun k h1 h2 h3 => (b.2.1 k h1 h2 h3).trans (a.2.1 k h1 h2 h3), b.2.2.1.trans a.2.2.1, b.2.2.2.trans a.2.2.2⟩
theorem R9.rb {S : Nat → Prop} {h h2 : dnH} (a : R9 S h h2) (hS : ∀ k, S k → k = 38 ∨ k = 39 ∨ k = 40) : RB h h2 := ⟨a.1.im (fun x hx => hx.1), fun k h1 h2 h3 => a.2.1 k (fun hc => by have := hS k hc; omega), a.2.2⟩
theorem si_row {h : dnH} {a k c : Nat} {v : Int32} (hc : c ≠ a) : (dnSI h a k v).2.1 c = h.2.1 c := dnUp_row hc
theorem rb_SI {h : dnH} {a k : Nat} {v : Int32} (ha : a = 317 ∨ a = 318) : RB h (dnSI h a k v) := ⟨eqc_SI (fun hc => by omega), fun j _ _ _ => congrFun (dnUp_row (by omega)) j, rfl, rfl⟩
theorem RB.tx {h h2 : dnH} {t : Nat → Nat} {n : Nat} (e : RB h h2) (x : RTx h t n) : RTx h2 t n := by
  refine ⟨by rw [e.2.1 37 (by decide) (by decide) (by decide)]; exact x.1, fun i hi => ?_⟩
  rw [(e.1.2.2 316 (by decide)).1]
  exact x.2 i hi
theorem numbersOf_A {w : Nat} (hw : w < 14) : fX13_numbersOf (nI w) = dnP (nI (cnW w)) := by
  refine Hf.val ?_ ((by decide +kernel : ∀ w, w < 14 → (fX13_numbersOf (nI w) dnH0).map Prod.fst = some (nI (cnW w))) w hw)
  unfold fX13_numbersOf
  repeat (first | exact Hf.pure | (refine Hf.ite Hf.pure ?_))
def preN (t : Nat → Nat) (n p : Nat) : Nat → Nat
  | 0 => rn t n 97 122 p
  | j + 1 => rn t n 48 57 (nP t n (p1O t n p) j)
theorem pre_sp {t : Nat → Nat} {n p : Nat} (j : Nat) : rn t n 32 32 (preN t n p j) = nP t n (p1O t n p) j := by cases j <;> rfl
theorem pre_le {t : Nat → Nat} {n p : Nat} (hp : p ≤ n) (j : Nat) : preN t n p j ≤ n := by
  cases j with
  | zero => exact (rn_sp hp).2.1
  | succ j => exact (rn_sp (nP_le (p1_le hp) j)).2.1
theorem nums_r {h : dnH} {t : Nat → Nat} {n k w p N : Nat} (hs : Sh h) (x : RTx h t n) (hn : n ≤ 80) (ht : ∀ i, i < n → t i < 256) (hp : p ≤ n) (hw : w < 14) (hk : k < 8) (h40 : h.2.1 289 40 = nI k) (h38 : h.2.1 289 38 = nI (preN t n p 0)) (hN : N ≤ cnW w) (hok : ∀ i, i < N → okN t n (p1O t n p) i = true) (hend : N = cnW w ∨ (N < cnW w ∧ okN t n (p1O t n p) N = false)) : ∃ h2, dnIt 1000 (fX13_readsStep_b57 (some 289) (nI w)) 0 h = some ((if N = cnW w then .inl () else .inr false), h2) ∧ RB h h2 ∧ h2.2.1 289 40 = nI k ∧ h2.2.1 317 = h.2.1 317 ∧ h2.2.1 289 38 = nI (if N = cnW w then preN t n p N else nP t n (p1O t n p) N) ∧ (∀ i, i < N → h2.2.1 318 (5 * k + i) = nI (nV t n (p1O t n p) i)) ∧ ∀ y, (y < 5 * k ∨ 5 * k + 5 ≤ y) → h2.2.1 318 y = h.2.1 318 y := by
  obtain ⟨w1, w2, w3, w4, w5, w6⟩ := wfacts w hw
  have KK := it_inv (f := fX13_readsStep_b57 (some 289) (nI w)) (Q := fun q h2 => q = (if N = cnW w then Sum.inl () else .inr false) ∧ RB h h2 ∧ h2.2.1 289 40 = nI k ∧ h2.2.1 317 = h.2.1 317 ∧ h2.2.1 289 38 = nI (if N = cnW w then preN t n p N else nP t n (p1O t n p) N) ∧ (∀ i, i < N → h2.2.1 318 (5 * k + i) = nI (nV t n (p1O t n p) i)) ∧ ∀ y, (y < 5 * k ∨ 5 * k + 5 ≤ y) → h2.2.1 318 y = h.2.1 318 y) (fun j u h2 => u = nI j ∧ RB h h2 ∧ h2.2.1 289 40 = nI k ∧ h2.2.1 317 = h.2.1 317 ∧ h2.2.1 289 38 = nI (preN t n p j) ∧ (∀ i, i < j → h2.2.1 318 (5 * k + i) = nI (nV t n (p1O t n p) i)) ∧ ∀ y, (y < 5 * k ∨ 5 * k + 5 ≤ y) → h2.2.1 318 y = h.2.1 318 y) N 1000 0 (by omega) (by omega) ?_ ?_ (nI 0) h ⟨rfl, rb_rf, h40, rfl, h38, fun i hi => by omega, fun _ _ => rfl⟩
  · obtain ⟨q, h2, b1, rfl, b2⟩ := KK
    exact ⟨h2, b1, b2⟩
  · rintro j u k2 hj ⟨rfl, ek, e40, e317, e38, f1, f2⟩
    left
    have sk := ek.1.sh hs
    have xk := ek.tx x
    obtain ⟨k3, y1, y2, y3⟩ := blanks_r sk xk hn ht (pre_le hp j) e38
    rw [pre_sp] at y3
    have s3 := y2.1.sh sk
    have x3 := (y2.rb (fun k hk => .inl hk)).tx xk
    obtain ⟨k4, z1, z2, z3, z4⟩ := number_r s3 x3 hn ht (nP_le (p1_le hp) j) y3
    have o := of_decide_eq_true (hok j hj)
    rw [decide_eq_true o] at z1
    rw [if_pos o] at z3
    have z4 : k4.2.1 289 39 = nI (nV t n (p1O t n p) j) := z4 o
    have s4 := z2.1.sh s3
    have c40 : k4.2.1 289 40 = nI k := by rw [z2.2.1 40 (by omega), y2.2.1 40 (by omega)]; exact e40
    have R : RB k2 k4 := (y2.rb (fun k hk => .inl hk)).tr (z2.rb (fun k hk => by omega))
    have c318 : k4.2.1 318 = k2.2.1 318 := (z2.1.2.2 318 (by decide)).1.trans (y2.1.2.2 318 (by decide)).1
    have c317 : k4.2.1 317 = k2.2.1 317 := (z2.1.2.2 317 (by decide)).1.trans (y2.1.2.2 317 (by decide)).1
    have hc : ¬ (nI (cnW w) ≤ nI j) := fun hc => by have := (nI_leI (a := cnW w) (b := j) (by omega) (by omega)).mp hc; omega
    have ei : 5 * nI k + nI j = nI (5 * k + j) := by rw [show (5 : Int32) = nI 5 from rfl, nI_mul, nI_add]
    have ti : dnTI (some 318) 100 (nI (5 * k + j)) (nI (nV t n (p1O t n p) j)) k4 = some ((), dnSI k4 318 (5 * k + j) (nI (nV t n (p1O t n p) j))) := by
      rw [t_318 s4, dnIn_nI (show 5 * k + j < 40 by omega) (by decide), nI_clamp (by omega)]
      rfl
    have q9 : (dnSI k4 318 (5 * k + j) (nI (nV t n (p1O t n p) j))).2.1 289 = k4.2.1 289 := si_row (by decide)
    refine ⟨nI (j + 1), dnSI k4 318 (5 * k + j) (nI (nV t n (p1O t n p) j)), ?_, rfl, (ek.tr R).tr (rb_SI (.inr rfl)), by rw [q9]; exact c40, ?_, by rw [q9]; exact z3, fun i hi => ?_, fun y hy => ?_⟩
    · simp only [fX13_readsStep_b57, numbersOf_A hw, dnB_eval, dnP, hc, if_false, v_289 sk, y1, v_289 s3, z1, if_true, g_289_42 s4, g_289_40 s4, c40, g_289_39 s4, z4, ei, ti, nI_1]
    · exact (si_row (by decide)).trans (c317.trans e317)
    · have e : (dnSI k4 318 (5 * k + j) (nI (nV t n (p1O t n p) j))).2.1 318 (5 * k + i) = if i = j then nI (nV t n (p1O t n p) j) else k4.2.1 318 (5 * k + i) := by simp [dnSI, dnUp]
      rw [e]
      by_cases q : i = j
      · rw [if_pos q, q]
      · rw [if_neg q, c318]; exact f1 i (by omega)
    · have ne : y ≠ 5 * k + j := by omega
      have e : (dnSI k4 318 (5 * k + j) (nI (nV t n (p1O t n p) j))).2.1 318 y = k4.2.1 318 y := by simp [dnSI, dnUp, ne]
      rw [e, c318]; exact f2 y hy
  · rintro u k2 ⟨rfl, ek, e40, e317, e38, f1, f2⟩
    have sk := ek.1.sh hs
    have xk := ek.tx x
    rcases hend with rfl | ⟨h1, h2⟩
    · refine ⟨_, k2, ?_, rfl, ek, e40, e317, by rw [if_pos rfl]; exact e38, f1, f2⟩
      rw [if_pos rfl]
      simp only [fX13_readsStep_b57, numbersOf_A hw, dnB_eval, dnP, Int32.le_refl, if_true]
    · obtain ⟨k3, y1, y2, y3⟩ := blanks_r sk xk hn ht (pre_le hp N) e38
      rw [pre_sp] at y3
      have s3 := y2.1.sh sk
      have x3 := (y2.rb (fun k hk => .inl hk)).tx xk
      obtain ⟨k4, z1, z2, z3, z4⟩ := number_r s3 x3 hn ht (nP_le (p1_le hp) N) y3
      have o := of_decide_eq_false h2
      rw [decide_eq_false o] at z1
      rw [if_neg o] at z3
      have ne : ¬ N = cnW w := by omega
      have hc : ¬ (nI (cnW w) ≤ nI N) := fun hc => by have := (nI_leI (a := cnW w) (b := N) (by omega) (by omega)).mp hc; omega
      have c318 : k4.2.1 318 = k2.2.1 318 := (z2.1.2.2 318 (by decide)).1.trans (y2.1.2.2 318 (by decide)).1
      have c317 : k4.2.1 317 = k2.2.1 317 := (z2.1.2.2 317 (by decide)).1.trans (y2.1.2.2 317 (by decide)).1
      refine ⟨_, k4, ?_, rfl, ek.tr ((y2.rb (fun k hk => .inl hk)).tr (z2.rb (fun k hk => by omega))), ?_, by rw [c317]; exact e317, by rw [if_neg ne]; exact z3, fun i hi => by rw [c318]; exact f1 i hi, fun y hy => by rw [c318]; exact f2 y hy⟩
      · rw [if_neg ne]
        simp only [fX13_readsStep_b57, numbersOf_A hw, dnB_eval, dnP, hc, if_false, v_289 sk, y1, v_289 s3, z1, Bool.false_eq_true]
      · rw [z2.2.1 40 (by omega), y2.2.1 40 (by omega)]; exact e40
theorem step8_r {h : dnH} {t : Nat → Nat} {n p : Nat} (hs : Sh h) (x : RTx h t n) (hn : n ≤ 80) (ht : ∀ i, i < n → t i < 256) (hp : p ≤ n) (h40 : h.2.1 289 40 = nI 8) (h38 : h.2.1 289 38 = nI p) : fX13_readsStep (some 289) h = some (false, h) := by
  have il := isLet_r hs x hn ht hp
  have e8 : nI 8 = 8 := rfl
  cases hL : inL t n 97 122 p with
  | false =>
    rw [hL] at il
    simp only [fX13_readsStep, dnB_eval, g_289_38 hs, h38, v_289 hs, il, Bool.false_eq_true, if_false, dnP]
  | true =>
    rw [hL] at il
    simp only [fX13_readsStep, dnB_eval, g_289_38 hs, h38, v_289 hs, il, if_true, g_289_40 hs, h40, e8, not_true_eq_false, if_false, dnP]
theorem step_r {h : dnH} {t : Nat → Nat} {n k p : Nat} (hs : Sh h) (x : RTx h t n) (hn : n ≤ 80) (ht : ∀ i, i < n → t i < 256) (hp : p < n) (hk : k < 8) (h40 : h.2.1 289 40 = nI k) (h38 : h.2.1 289 38 = nI p) : ∃ h2, fX13_readsStep (some 289) h = some (sOk t n p, h2) ∧ RB h h2 ∧ (∀ y, y ≠ k → h2.2.1 317 y = h.2.1 317 y) ∧ (∀ y, (y < 5 * k ∨ 5 * k + 5 ≤ y) → h2.2.1 318 y = h.2.1 318 y) ∧ (sOk t n p = false → h2.2.1 289 38 = nI (flO t n p)) ∧ (sOk t n p = true → h2.2.1 289 38 = nI (qO t n p + 1) ∧ h2.2.1 289 40 = nI (k + 1) ∧ h2.2.1 317 k = nI (wO t n p) ∧ ∀ i, i < cnW (wO t n p) → h2.2.1 318 (5 * k + i) = nI (nV t n (p1O t n p) i)) := by
  have il := isLet_r hs x hn ht (show p ≤ n by omega)
  have n8 : ¬ nI k = 8 := fun hc => by have := (nI_eq (b := 8) (by omega) (by decide)).mp hc; omega
  obtain ⟨r1, r2, r3, r4⟩ := rn_sp (t := t) (lo := 97) (hi := 122) (show p ≤ n by omega)
  cases hL : inL t n 97 122 p with
  | false =>
    rw [hL] at il
    have e0 : rn t n 97 122 p = p := by
      by_cases c : rn t n 97 122 p = p
      · exact c
      · have := r3 p (by omega) (by omega)
        rw [hL] at this
        cases this
    have nw : ¬ wO t n p < 14 := fun hc => by
      rcases wdI_cases t p (rn t n 97 122 p - p) with ⟨e, -⟩ | ⟨hw, h1, -⟩
      · have e : wO t n p = 14 := e
        omega
      · have := (eqW_iff.mp h1).1
        have := (wfacts _ hw).2.2.1
        omega
    rcases step_cases (t := t) (n := n) (p := p) with ⟨hw, s1, s2⟩ | ⟨hw, -⟩
    · refine ⟨h, ?_, rb_rf, fun _ _ => rfl, fun _ _ => rfl, fun _ => by rw [s2]; exact h38, fun hc => by rw [s1] at hc; cases hc⟩
      rw [s1]
      simp only [fX13_readsStep, dnB_eval, g_289_38 hs, h38, v_289 hs, il, Bool.false_eq_true, if_false, dnP]
    · exact absurd hw nw
  | true =>
    rw [hL] at il
    obtain ⟨h1, v, a1, a2, a3, a4⟩ := word_r hs x hn ht (show p ≤ n by omega) h38
    have s1' := a3.1.sh hs
    have A3 : RB h h1 := a3.rb (fun k hk => .inl hk)
    have x1 := A3.tx x
    rcases step_cases (t := t) (n := n) (p := p) with ⟨hw, s1, s2⟩ | ⟨hw, hrest⟩
    · have ew : wcd (wO t n p) = -9 := if_neg hw
      rw [ew] at a2
      refine ⟨dnSI h1 289 38 (nI p), ?_, A3.tr ((r9_SI (S := fun k => k = 38) (h := h1) (k := 38) (v := nI p) rfl).rb (fun k hk => .inl hk)), fun y hy => ?_, fun y hy => ?_, fun _ => by rw [s2]; simp [dnSI, dnUp], fun hc => by rw [s1] at hc; cases hc⟩
      · rw [s1]
        simp only [fX13_readsStep, dnB_eval, g_289_38 hs, h38, v_289 hs, il, if_true, g_289_40 hs, h40, n8, not_false_eq_true, a1, a2, dnP, not_true_eq_false, if_false, p_289_38 s1']
      · exact (congrFun (si_row (by decide)) y).trans (congrFun (a3.1.2.2 317 (by decide)).1 y)
      · exact (congrFun (si_row (by decide)) y).trans (congrFun (a3.1.2.2 318 (by decide)).1 y)
    have ew : wcd (wO t n p) = nI (wO t n p) := if_pos hw
    rw [ew] at a2
    have n9 : ¬ nI (wO t n p) = -9 := fun hc => by
      have := congrArg Int32.toInt hc
      rw [nI_toInt (by omega)] at this
      have e9 : (-9 : Int32).toInt = -9 := rfl
      omega
    have h40' : h1.2.1 289 40 = nI k := by rw [a3.2.1 40 (by omega)]; exact h40
    have t3 : dnTI (some 317) 100 (nI k) (nI (wO t n p)) h1 = some ((), dnSI h1 317 k (nI (wO t n p))) := by
      rw [t_317 s1', dnIn_nI hk (by decide), nI_clamp (by omega)]
      rfl
    obtain ⟨g, eg⟩ : ∃ g, g = dnSI h1 317 k (nI (wO t n p)) := ⟨_, rfl⟩
    rw [← eg] at t3
    have G1 : RB h1 g := by rw [eg]; exact rb_SI (.inl rfl)
    have sg' := G1.1.sh s1'
    have xg := G1.tx x1
    have g9 : g.2.1 289 = h1.2.1 289 := by rw [eg]; exact si_row (by decide)
    have w3 : g.2.1 317 k = nI (wO t n p) := by rw [eg]; simp [dnSI, dnUp]
    have w3o : ∀ y, y ≠ k → g.2.1 317 y = h.2.1 317 y := fun y hy => by
      have : g.2.1 317 y = h1.2.1 317 y := by rw [eg]; simp [dnSI, dnUp, hy]
      rw [this, (a3.1.2.2 317 (by decide)).1]
    have g318 : g.2.1 318 = h.2.1 318 := by
      have : g.2.1 318 = h1.2.1 318 := by rw [eg]; exact si_row (by decide)
      rw [this, (a3.1.2.2 318 (by decide)).1]
    have c40 : g.2.1 289 40 = nI k := by rw [g9]; exact h40'
    have c38 : g.2.1 289 38 = nI (preN t n p 0) := by rw [g9]; exact a4
    have G : RB h g := A3.tr G1
    have head : ∀ (o : Bool) (h2 : dnH), (match dnIt 1000 (fX13_readsStep_b57 (some 289) (nI (wO t n p))) 0 g with | none => none | some q => (Sum.elim (fun q57 => dnB (dnCv (some 289) 11 (fX13_passesBlanks (some 289))) fun _ =>
        dnB (dnGI (some 289) 11 38) fun v15 => dnB (dnGI (some 289) 11 37) fun v16 => if v15 = v16 then (dnP false) else (dnB (dnGR (some 289) 11 36) fun v17 => dnB (dnGI (some 289) 11 38) fun v18 => dnB (dnAI v17 100 v18) fun v19 => if v19 = 59 then (dnB (dnGI (some 289) 11 38) fun v20 => dnB (dnPI (some 289) 11 38 (v20 + 1)) fun _ => dnB (dnGI (some 289) 11 40) fun v21 => dnB (dnPI (some 289) 11 40 (v21 + 1)) fun _ => dnP true) else (dnP false))) (fun v_ => dnP v_) q.1 : dnM Bool) q.2) = some (o, h2) → fX13_readsStep (some 289) h = some (o, h2) := fun o h2 e => by
      rw [← e]
      simp only [fX13_readsStep, dnB_eval, g_289_38 hs, h38, v_289 hs, il, if_true, g_289_40 hs, h40, n8, not_false_eq_true, a1, a2, dnP, n9, g_289_41 s1', g_289_40 s1', h40', t3]
      cases dnIt 1000 (fX13_readsStep_b57 (some 289) (nI (wO t n p))) 0 g <;> rfl
    rcases hrest with ⟨j, hj, j1, j2, s1, s2⟩ | ⟨hall, hq⟩
    · obtain ⟨h2, y1, y2, y3, y4, y5, y6, y7⟩ := nums_r (p := p) sg' xg hn ht (by omega) hw hk c40 c38 (Nat.le_of_lt hj) j2 (.inr ⟨hj, j1⟩)
      rw [if_neg (show ¬ j = cnW (wO t n p) by omega)] at y1 y5
      refine ⟨h2, head _ _ ?_, G.tr y2, fun y hy => by rw [y4]; exact w3o y hy, fun y hy => by rw [y7 y hy, g318], fun _ => by rw [s2]; exact y5, fun hc => by rw [s1] at hc; cases hc⟩
      rw [y1, s1]
      rfl
    · obtain ⟨h2, y1, y2, y3, y4, y5, y6, y7⟩ := nums_r (p := p) sg' xg hn ht (by omega) hw hk c40 c38 (Nat.le_refl _) hall (.inl rfl)
      rw [if_pos rfl] at y1 y5
      have s2' := y2.1.sh sg'
      have x2 := y2.tx xg
      obtain ⟨h3, z1, z2, z3⟩ := blanks_r s2' x2 hn ht (pre_le (show p ≤ n by omega) _) y5
      rw [pre_sp] at z3
      have z3 : h3.2.1 289 38 = nI (qO t n p) := z3
      have s3 := z2.1.sh s2'
      have Z2 : RB h2 h3 := z2.rb (fun k hk => .inl hk)
      have x3 := Z2.tx x2
      have d40 : h3.2.1 289 40 = nI k := by rw [z2.2.1 40 (by omega)]; exact y3
      have d317 : h3.2.1 317 = g.2.1 317 := by rw [(z2.1.2.2 317 (by decide)).1]; exact y4
      have d318 : h3.2.1 318 = h2.2.1 318 := (z2.1.2.2 318 (by decide)).1
      have qn : qO t n p ≤ n := nP_le (p1_le (by omega)) _
      rcases hq with ⟨hq, s1, sx⟩ | ⟨⟨q1, q2⟩, s1⟩
      · refine ⟨h3, head _ _ ?_, (G.tr y2).tr Z2, fun y hy => by rw [d317]; exact w3o y hy, fun y hy => by rw [d318, y7 y hy, g318], fun _ => by rw [sx]; exact z3, fun hc => by rw [s1] at hc; cases hc⟩
        rw [y1, s1]
        by_cases c : qO t n p = n
        · have ec : nI (qO t n p) = nI n := by rw [c]
          simp only [Sum.elim_inl, dnB_eval, v_289 s2', z1, g_289_38 s3, z3, g_289_37 s3, x3.1, ec, if_true, dnP]
        · have nc : ¬ nI (qO t n p) = nI n := fun hc => c ((nI_eq (by omega) (by omega)).mp hc)
          have tq := ht (qO t n p) (by omega)
          have n59 : ¬ nI (t (qO t n p)) = 59 := fun hc => hq ⟨by omega, (nI_eq (b := 59) (by omega) (by decide)).mp hc⟩
          simp only [Sum.elim_inl, dnB_eval, v_289 s2', z1, g_289_38 s3, z3, g_289_37 s3, x3.1, nc, if_false, g_289_36 s3, rtx_A s3 x3 hn (show qO t n p < n by omega), n59, dnP]
      · have nc : ¬ nI (qO t n p) = nI n := fun hc => by have := (nI_eq (by omega) (by omega)).mp hc; omega
        have e59 : nI (t (qO t n p)) = 59 := by rw [q2]; rfl
        have s4 : Sh (dnSI h3 289 38 (nI (qO t n p + 1))) := s3
        have e40 : (dnSI h3 289 38 (nI (qO t n p + 1))).2.1 289 40 = nI k := by rw [← d40]; simp [dnSI, dnUp]
        have Z3 : RB h3 (dnSI (dnSI h3 289 38 (nI (qO t n p + 1))) 289 40 (nI (k + 1))) := ((r9_SI (S := fun k => k = 38) rfl).rb (fun k hk => .inl hk)).tr ((r9_SI (S := fun k => k = 40) rfl).rb (fun k hk => .inr (.inr hk)))
        have o317 : (dnSI (dnSI h3 289 38 (nI (qO t n p + 1))) 289 40 (nI (k + 1))).2.1 317 = h3.2.1 317 := (si_row (by decide)).trans (si_row (by decide))
        have o318 : (dnSI (dnSI h3 289 38 (nI (qO t n p + 1))) 289 40 (nI (k + 1))).2.1 318 = h3.2.1 318 := (si_row (by decide)).trans (si_row (by decide))
        refine ⟨dnSI (dnSI h3 289 38 (nI (qO t n p + 1))) 289 40 (nI (k + 1)), head _ _ ?_, ((G.tr y2).tr Z2).tr Z3, fun y hy => by rw [o317, d317]; exact w3o y hy, fun y hy => by rw [o318, d318, y7 y hy, g318], fun hc => (by rw [s1] at hc; cases hc), fun _ => ⟨by simp [dnSI, dnUp], by simp [dnSI, dnUp], by rw [o317, d317]; exact w3, fun i hi => by rw [o318, d318]; exact y6 i hi⟩⟩
        rw [y1, s1]
        simp only [Sum.elim_inl, dnB_eval, v_289 s2', z1, g_289_38 s3, z3, g_289_37 s3, x3.1, nc, if_false, g_289_36 s3, rtx_A s3 x3 hn q1, e59, if_true, nI_1, p_289_38 s3, g_289_40 s4, e40, p_289_40 s4, dnP]
theorem reads_r {h : dnH} {t : Nat → Nat} {n k : Nat} (hs : Sh h) (x : RTx h t n) (hn : n ≤ 80) (ht : ∀ i, i < n → t i < 256) (hk : k ≤ 8) (hj : ∀ j, j < k → Qs t n j < n ∧ sOk t n (Qs t n j) = true) (hend : n ≤ Qs t n k ∨ k = 8 ∨ sOk t n (Qs t n k) = false) : ∃ h2, fX13_reads (some 289) h = some (decide (n ≤ Qs t n k), h2) ∧ RB h h2 ∧ (n ≤ Qs t n k → StK h2 317 318 t n k ∧ h2.2.1 289 40 = nI k) ∧ (¬ n ≤ Qs t n k → -20 - h2.2.1 289 38 = pv t n k) := by
  have ql := Qs_le hj
  obtain ⟨g, eg⟩ : ∃ g, g = dnSI (dnSI h 289 38 0) 289 40 0 := ⟨_, rfl⟩
  have G : RB h g := by
    rw [eg]
    exact ((r9_SI (S := fun k => k = 38) rfl).rb (fun k hk => .inl hk)).tr ((r9_SI (S := fun k => k = 40) rfl).rb (fun k hk => .inr (.inr hk)))
  have sg' := G.1.sh hs
  have xg := G.tx x
  have g38 : g.2.1 289 38 = nI 0 := by rw [eg]; simp [dnSI, dnUp]; rfl
  have g40 : g.2.1 289 40 = nI 0 := by rw [eg]; simp [dnSI, dnUp]; rfl
  obtain ⟨g2, y1, y2, y3⟩ := blanks_r sg' xg hn ht (Nat.zero_le n) g38
  have Y2 : RB g g2 := y2.rb (fun k hk => .inl hk)
  have s1 : Sh (dnSI h 289 38 0) := hs
  have KK := it_inv (f := fX13_reads_b14 (some 289)) (Q := fun q h2 => q = (if n ≤ Qs t n k then Sum.inl () else .inr false) ∧ RB h h2 ∧ (n ≤ Qs t n k → StK h2 317 318 t n k ∧ h2.2.1 289 40 = nI k) ∧ (¬ n ≤ Qs t n k → -20 - h2.2.1 289 38 = pv t n k)) (fun j _ h2 => RB h h2 ∧ StK h2 317 318 t n j ∧ h2.2.1 289 40 = nI j ∧ h2.2.1 289 38 = nI (Qs t n j)) k 1000 0 (by omega) (by omega) ?_ ?_ () g2 ⟨G.tr Y2, fun j hj => by omega, by rw [y2.2.1 40 (by omega)]; exact g40, y3⟩
  · obtain ⟨q, h2, b1, rfl, b2, b3, b4⟩ := KK
    refine ⟨h2, ?_, b2, b3, b4⟩
    by_cases c : n ≤ Qs t n k
    · rw [if_pos c] at b1
      rw [decide_eq_true c]
      simp only [fX13_reads, dnB_eval, p_289_38 hs, p_289_40 s1, ← eg, v_289 sg', y1, b1, Sum.elim_inl, dnP]
    · rw [if_neg c] at b1
      rw [decide_eq_false c]
      simp only [fX13_reads, dnB_eval, p_289_38 hs, p_289_40 s1, ← eg, v_289 sg', y1, b1, Sum.elim_inr, dnP]
  · rintro j u k2 hjk ⟨ek, sp, e40, e38⟩
    left
    have sk := ek.1.sh hs
    have xk := ek.tx x
    obtain ⟨q1, q2⟩ := hj j hjk
    have hc : ¬ (nI n ≤ nI (Qs t n j)) := fun hc => by have := (nI_leI (a := n) (b := Qs t n j) (by omega) (by omega)).mp hc; omega
    obtain ⟨h2, z1, z2, z3, z4, z5, z6⟩ := step_r (k := j) sk xk hn ht q1 (by omega) e40 e38
    rw [q2] at z1
    obtain ⟨u1, u2, u3, u4⟩ := z6 q2
    have s2 := z2.1.sh sk
    have x2 := z2.tx xk
    have qq : qO t n (Qs t n j) + 1 ≤ n := by
      rcases step_cases (t := t) (n := n) (p := Qs t n j) with ⟨-, s1, -⟩ | ⟨-, ⟨i, -, -, -, s1, -⟩ | ⟨-, ⟨-, s1, -⟩ | ⟨⟨q1, -⟩, -⟩⟩⟩
      · rw [s1] at q2; cases q2
      · rw [s1] at q2; cases q2
      · rw [s1] at q2; cases q2
      · omega
    obtain ⟨h3, v1, v2, v3⟩ := blanks_r s2 x2 hn ht qq u1
    refine ⟨(), h3, ?_, (ek.tr z2).tr (v2.rb (fun k hk => .inl hk)), fun i hi => ?_, by rw [v2.2.1 40 (by omega)]; exact u2, v3⟩
    · simp only [fX13_reads_b14, dnB_eval, g_289_38 sk, e38, g_289_37 sk, xk.1, hc, if_false, v_289 sk, z1, if_true, v_289 s2, v1, dnP]
    · rw [(v2.1.2.2 317 (by decide)).1, (v2.1.2.2 318 (by decide)).1]
      by_cases c : i = j
      · rw [c]; exact ⟨u3, u4⟩
      · obtain ⟨w1, w2⟩ := sp i (by omega)
        refine ⟨by rw [z3 i c]; exact w1, fun m hm => ?_⟩
        have mw : cnW (wO t n (Qs t n i)) ≤ 5 := by
          by_cases cw : wO t n (Qs t n i) < 14
          · exact (wfacts _ cw).2.2.2.2.1
          · have := (hj i (by omega)).2
            rcases step_cases (t := t) (n := n) (p := Qs t n i) with ⟨-, s1, -⟩ | ⟨hw, -⟩
            · rw [s1] at this; cases this
            · exact absurd hw cw
        rw [z4 (5 * i + m) (by omega)]
        exact w2 m hm
  · rintro u k2 ⟨ek, sp, e40, e38⟩
    have sk := ek.1.sh hs
    have xk := ek.tx x
    have qk := ql k (Nat.le_refl _)
    by_cases c : n ≤ Qs t n k
    · have hc : nI n ≤ nI (Qs t n k) := (nI_leI (by omega) (by omega)).mpr c
      refine ⟨_, k2, ?_, rfl, ek, fun _ => ⟨sp, e40⟩, fun hc => absurd c hc⟩
      rw [if_pos c]
      simp only [fX13_reads_b14, dnB_eval, g_289_38 sk, e38, g_289_37 sk, xk.1, hc, if_true, dnP]
    · have hc : ¬ (nI n ≤ nI (Qs t n k)) := fun hc => c ((nI_leI (by omega) (by omega)).mp hc)
      by_cases c8 : k = 8
      · have st := step8_r sk xk hn ht qk (by rw [e40, c8]) e38
        refine ⟨_, k2, ?_, rfl, ek, fun hc => absurd hc c, fun _ => ?_⟩
        · rw [if_neg c]
          simp only [fX13_reads_b14, dnB_eval, g_289_38 sk, e38, g_289_37 sk, xk.1, hc, if_false, v_289 sk, st, Bool.false_eq_true, dnP]
        · unfold pv
          rw [if_neg c, if_pos c8, e38]
      · have sf : sOk t n (Qs t n k) = false := by
          rcases hend with h | h | h
          · exact absurd h c
          · exact absurd h c8
          · exact h
        obtain ⟨h2, z1, z2, z3, z4, z5, z6⟩ := step_r (k := k) sk xk hn ht (show Qs t n k < n by omega) (by omega) e40 e38
        rw [sf] at z1
        refine ⟨_, h2, ?_, rfl, ek.tr z2, fun hc => absurd hc c, fun _ => ?_⟩
        · rw [if_neg c]
          simp only [fX13_reads_b14, dnB_eval, g_289_38 sk, e38, g_289_37 sk, xk.1, hc, if_false, v_289 sk, z1, Bool.false_eq_true, dnP]
        · unfold pv
          rw [if_neg c, if_neg c8, z5 sf]
