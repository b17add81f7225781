/-! ABS 63: plan: the reference reads the text -/
def R9 (S : Nat → Prop) (h h2 : dnH) : Prop := Eqc (fun x => x ≠ 289) h h2 ∧ (∀ k, ¬ S k → h2.2.1 289 k = h.2.1 289 k) ∧ h2.2.2.1 289 = h.2.2.1 289 ∧ h2.2.2.2.1 289 = h.2.2.2.1 289
theorem r9_rf {S : Nat → Prop} {h : dnH} : R9 S h h := ⟨Eqc.rf, fun _ _ => rfl, rfl, rfl⟩
theorem R9.tr {S : Nat → Prop} {h h2 h3 : dnH} (a : R9 S h h2) (b : R9 S h2 h3) : R9 S h h3 := ⟨a.1.tr b.1, fun k hk => (b.2.1 k hk).trans (a.2.1 k hk), b.2.2.1.trans a.2.2.1, b.2.2.2.trans a.2.2.2⟩
theorem R9.im {S T : Nat → Prop} {h h2 : dnH} (a : R9 S h h2) (hT : ∀ k, S k → T k) : R9 T h h2 := ⟨a.1, fun k hk => a.2.1 k (fun hc => hk (hT k hc)), a.2.2⟩
theorem r9_SI {S : Nat → Prop} {h : dnH} {k : Nat} {v : Int32} (hk : S k) : R9 S h (dnSI h 289 k v) := ⟨eqc_SI (fun hc => hc rfl), fun j hj => dnUp_neK (fun e => hj (e ▸ hk)), rfl, rfl⟩
theorem RTx.go {S : Nat → Prop} {h h2 : dnH} {t : Nat → Nat} {n : Nat} (e : R9 S h h2) (hS : ¬ S 37) (x : RTx h t n) : RTx h2 t n := by
  refine ⟨by rw [e.2.1 37 hS]; exact x.1, fun i hi => ?_⟩
  rw [(e.1.2.2 316 (by decide)).1]
  exact x.2 i hi
theorem in_A {x lo hi : Nat} (hx : x < 256) (hl : lo < 256) (hh : hi < 256) : inB (nI x) (nI lo) (nI hi) = decide (lo ≤ x ∧ x ≤ hi) := by
  unfold inB
  rw [decide_eq_decide, nI_leI (by omega) (by omega), nI_leI (by omega) (by omega)]
theorem isLet_r {h : dnH} {t : Nat → Nat} {n p : Nat} (hs : Sh h) (x : RTx h t n) (hn : n ≤ 80) (ht : ∀ i, i < n → t i < 256) (hp : p ≤ n) : fX13_isLetter (some 289) (nI p) h = some (inL t n 97 122 p, h) := by
  unfold inL
  by_cases q : n ≤ p
  · have hc : nI n ≤ nI p := (nI_leI (by omega) (by omega)).mpr q
    rw [decide_eq_false (by omega)]
    simp only [fX13_isLetter, dnB_eval, g_289_37 hs, x.1, hc, if_true, dnP]
  · have hc : ¬ nI n ≤ nI p := fun hc => q ((nI_leI (by omega) (by omega)).mp hc)
    have e := in_A (x := t p) (lo := 97) (hi := 122) (ht p (by omega)) (by decide) (by decide)
    have e : inB (nI (t p)) 97 122 = decide (97 ≤ t p ∧ t p ≤ 122) := e
    simp only [fX13_isLetter, dnB_eval, g_289_37 hs, x.1, hc, if_false, g_289_36 hs, rtx_A hs x hn (show p < n by omega), r_in, e, dnP, show p < n by omega, true_and]
    by_cases c : 97 ≤ t p ∧ t p ≤ 122
    · simp only [c, decide_true, and_self, if_true, dnP]
    · simp only [c, decide_false, Bool.false_eq_true, if_false, dnP]
theorem isFig_r {h : dnH} {t : Nat → Nat} {n p : Nat} (hs : Sh h) (x : RTx h t n) (hn : n ≤ 80) (ht : ∀ i, i < n → t i < 256) (hp : p ≤ n) : fX13_isFigure (some 289) (nI p) h = some (inL t n 48 57 p, h) := by
  unfold inL
  by_cases q : n ≤ p
  · have hc : nI n ≤ nI p := (nI_leI (by omega) (by omega)).mpr q
    rw [decide_eq_false (by omega)]
    simp only [fX13_isFigure, dnB_eval, g_289_37 hs, x.1, hc, if_true, dnP]
  · have hc : ¬ nI n ≤ nI p := fun hc => q ((nI_leI (by omega) (by omega)).mp hc)
    have e := in_A (x := t p) (lo := 48) (hi := 57) (ht p (by omega)) (by decide) (by decide)
    have e : inB (nI (t p)) 48 57 = decide (48 ≤ t p ∧ t p ≤ 57) := e
    simp only [fX13_isFigure, dnB_eval, g_289_37 hs, x.1, hc, if_false, g_289_36 hs, rtx_A hs x hn (show p < n by omega), r_in, e, dnP, show p < n by omega, true_and]
    by_cases c : 48 ≤ t p ∧ t p ≤ 57
    · simp only [c, decide_true, and_self, if_true, dnP]
    · simp only [c, decide_false, Bool.false_eq_true, if_false, dnP]
theorem blanks_r {h : dnH} {t : Nat → Nat} {n p : Nat} (hs : Sh h) (x : RTx h t n) (hn : n ≤ 80) (ht : ∀ i, i < n → t i < 256) (hp : p ≤ n) (h38 : h.2.1 289 38 = nI p) : ∃ h2, fX13_passesBlanks (some 289) h = some ((), h2) ∧ R9 (fun k => k = 38) h h2 ∧ h2.2.1 289 38 = nI (rn t n 32 32 p) := by
  obtain ⟨r1, r2, r3, r4⟩ := rn_sp (t := t) (lo := 32) (hi := 32) hp
  have KK := it_inv (f := fX13_passesBlanks_b0 (some 289)) (Q := fun _ k => R9 (fun k => k = 38) h k ∧ k.2.1 289 38 = nI (rn t n 32 32 p)) (fun j _ k => R9 (fun k => k = 38) h k ∧ k.2.1 289 38 = nI (p + j)) (rn t n 32 32 p - p) 1000 0 (by omega) (by omega) ?_ ?_ () h ⟨r9_rf, h38⟩
  · obtain ⟨q, h2, b1, b2, b3⟩ := KK
    exact ⟨h2, by simp only [fX13_passesBlanks, dnB_eval, b1, dnP], b2, b3⟩
  · rintro j u k hj ⟨ek, e38⟩
    left
    have sk := ek.1.sh hs
    have xk := x.go ek (by decide)
    have hc : ¬ (nI n ≤ nI (p + j)) := fun hc => by have := (nI_leI (a := n) (b := p + j) (by omega) (by omega)).mp hc; omega
    have t32 : t (p + j) = 32 := by
      have := (of_decide_eq_true (r3 (p + j) (by omega) (by omega))).2
      omega
    have e32 : nI (t (p + j)) = 32 := by rw [t32]; rfl
    refine ⟨(), dnSI k 289 38 (nI (p + (j + 1))), ?_, ek.tr (r9_SI rfl), by simp [dnSI, dnUp]⟩
    have ej : nI (p + j + 1) = nI (p + (j + 1)) := rfl
    simp only [fX13_passesBlanks_b0, dnB_eval, g_289_38 sk, g_289_37 sk, e38, xk.1, hc, if_false, g_289_36 sk, rtx_A sk xk hn (show p + j < n by omega), e32, not_true_eq_false, p_289_38 sk, nI_1, ej, dnP]
  · rintro u k ⟨ek, e38⟩
    have sk := ek.1.sh hs
    have xk := x.go ek (by decide)
    rw [show p + (rn t n 32 32 p - p) = rn t n 32 32 p by omega] at e38
    by_cases q : n ≤ rn t n 32 32 p
    · have hc : nI n ≤ nI (rn t n 32 32 p) := (nI_leI (by omega) (by omega)).mpr q
      exact ⟨(), k, by simp only [fX13_passesBlanks_b0, dnB_eval, g_289_38 sk, g_289_37 sk, e38, xk.1, hc, if_true, dnP], ek, e38⟩
    · have hc : ¬ (nI n ≤ nI (rn t n 32 32 p)) := fun hc => q ((nI_leI (by omega) (by omega)).mp hc)
      have tp := ht (rn t n 32 32 p) (by omega)
      have n32 : ¬ nI (t (rn t n 32 32 p)) = 32 := fun hc => by
        have := (nI_eq (b := 32) (by omega) (by decide)).mp hc
        have := of_decide_eq_false r4
        omega
      exact ⟨(), k, by simp only [fX13_passesBlanks_b0, dnB_eval, g_289_38 sk, g_289_37 sk, e38, xk.1, hc, if_false, g_289_36 sk, rtx_A sk xk hn (show rn t n 32 32 p < n by omega), n32, not_false_eq_true, if_true, dnP], ek, e38⟩
def pkN (t : Nat → Nat) (p : Nat) : Nat → Nat
  | 0 => 0
  | m + 1 => 32 * pkN t p m + (t (p + m) - 96)
theorem pkN_lt {t : Nat → Nat} {p : Nat} : ∀ m, (∀ i, i < m → 97 ≤ t (p + i) ∧ t (p + i) ≤ 122) → pkN t p m < 32 ^ m := by
  intro m
  induction m with
  | zero => intro _; exact Nat.one_pos
  | succ m ih =>
    intro h
    have h1 := ih (fun i hi => h i (by omega))
    have h2 := h m (by omega)
    have e : pkN t p (m + 1) = 32 * pkN t p m + (t (p + m) - 96) := rfl
    have e2 : 32 ^ (m + 1) = 32 * 32 ^ m := by rw [Nat.pow_succ, Nat.mul_comm]
    rw [e, e2]
    omega
theorem pk_inj {t t2 : Nat → Nat} {p p2 : Nat} : ∀ m m2, (∀ i, i < m → 97 ≤ t (p + i) ∧ t (p + i) ≤ 122) → (∀ i, i < m2 → 97 ≤ t2 (p2 + i) ∧ t2 (p2 + i) ≤ 122) → pkN t p m = pkN t2 p2 m2 → m = m2 ∧ ∀ i, i < m → t (p + i) = t2 (p2 + i) := by
  intro m
  induction m with
  | zero =>
    intro m2 h1 h2 e
    cases m2 with
    | zero => exact ⟨rfl, fun i hi => by omega⟩
    | succ m2 =>
      have := h2 m2 (by omega)
      have e2 : pkN t2 p2 (m2 + 1) = 32 * pkN t2 p2 m2 + (t2 (p2 + m2) - 96) := rfl
      have e3 : pkN t p 0 = 0 := rfl
      omega
  | succ m ih =>
    intro m2 h1 h2 e
    have a1 := h1 m (by omega)
    have e1 : pkN t p (m + 1) = 32 * pkN t p m + (t (p + m) - 96) := rfl
    cases m2 with
    | zero =>
      have e3 : pkN t2 p2 0 = 0 := rfl
      omega
    | succ m2 =>
      have a2 := h2 m2 (by omega)
      have e2 : pkN t2 p2 (m2 + 1) = 32 * pkN t2 p2 m2 + (t2 (p2 + m2) - 96) := rfl
      rw [e1, e2] at e
      obtain ⟨i1, i2⟩ := ih m2 (fun i hi => h1 i (by omega)) (fun i hi => h2 i (by omega)) (by omega)
      subst i1
      refine ⟨rfl, fun i hi => ?_⟩
      by_cases c : i = m
      · rw [c]; omega
      · exact i2 i (by omega)
theorem hf_packed {a b c d : Int32} : Hf (fX13_packed a b c d) := Hf.pure
theorem hf_later {v : Int64} : Hf (fX13_laterDeed v) := by
  unfold fX13_laterDeed
  repeat (first | exact Hf.pure | (refine Hf.bind hf_packed (fun _ => Hf.ite ?_ Hf.pure)))
theorem hf_deed {v : Int64} : Hf (fX13_deedOf v) := by
  unfold fX13_deedOf
  repeat (first | exact Hf.pure | (refine Hf.bind hf_packed (fun _ => Hf.ite ?_ Hf.pure)) | (refine Hf.bind hf_later (fun _ => Hf.pure)))
def cw (w : Nat) : Nat := pkN (lt w) 0 (dnWl w)
theorem deed_w : ∀ w, w < 14 → (fX13_deedOf (Int64.ofNat (cw w)) dnH0).map Prod.fst = some (nI w) := by decide +kernel
theorem deed_m : (fX13_deedOf (-1) dnH0).map Prod.fst = some (-9) := by decide +kernel
theorem cmp_ne {a b : Int64} (h : a ≠ b) : ¬ lg_cmp a b = 0 := fun hc => h ((lg_cmp_eq a b).mp hc)
theorem deed_no {v : Int64} (hv : ∀ w, w < 14 → v ≠ Int64.ofNat (cw w)) : fX13_deedOf v = dnP (-9) := by
  have c : ∀ w, w < 14 → ¬ lg_cmp v (Int64.ofNat (cw w)) = 0 := fun w hw => cmp_ne (hv w hw)
  have k : ∀ {x : Int64} (w : Nat), w < 14 → x = Int64.ofNat (cw w) → ¬ lg_cmp v x = 0 := fun {x} w hw e => by rw [e]; exact c w hw
  have q0 : ¬ lg_cmp v (((Int32.toInt64 0 * 32 + Int32.toInt64 18) * 32 + Int32.toInt64 15) * 32 + Int32.toInt64 23) = 0 := k 0 (by decide) (by decide +kernel)
  have q1 : ¬ lg_cmp v (((Int32.toInt64 4 * 32 + Int32.toInt64 18) * 32 + Int32.toInt64 15) * 32 + Int32.toInt64 16) = 0 := k 1 (by decide) (by decide +kernel)
  have q2 : ¬ lg_cmp v (((Int32.toInt64 19 * 32 + Int32.toInt64 23) * 32 + Int32.toInt64 1) * 32 + Int32.toInt64 16) = 0 := k 2 (by decide) (by decide +kernel)
  have q3 : ¬ lg_cmp v (32 * (((Int32.toInt64 19 * 32 + Int32.toInt64 8) * 32 + Int32.toInt64 1) * 32 + Int32.toInt64 18) + 5) = 0 := k 3 (by decide) (by decide +kernel)
  have q4 : ¬ lg_cmp v (((Int32.toInt64 0 * 32 + Int32.toInt64 3) * 32 + Int32.toInt64 21) * 32 + Int32.toInt64 20) = 0 := k 4 (by decide) (by decide +kernel)
  have q5 : ¬ lg_cmp v (((Int32.toInt64 3 * 32 + Int32.toInt64 1) * 32 + Int32.toInt64 19) * 32 + Int32.toInt64 20) = 0 := k 5 (by decide) (by decide +kernel)
  have q6 : ¬ lg_cmp v (((Int32.toInt64 10 * 32 + Int32.toInt64 15) * 32 + Int32.toInt64 9) * 32 + Int32.toInt64 14) = 0 := k 6 (by decide) (by decide +kernel)
  have q7 : ¬ lg_cmp v (((Int32.toInt64 6 * 32 + Int32.toInt64 12) * 32 + Int32.toInt64 9) * 32 + Int32.toInt64 16) = 0 := k 7 (by decide) (by decide +kernel)
  have q8 : ¬ lg_cmp v (((Int32.toInt64 18 * 32 + Int32.toInt64 15) * 32 + Int32.toInt64 12) * 32 + Int32.toInt64 12) = 0 := k 8 (by decide) (by decide +kernel)
  have q9 : ¬ lg_cmp v (32 * (((Int32.toInt64 15 * 32 + Int32.toInt64 18) * 32 + Int32.toInt64 4) * 32 + Int32.toInt64 5) + 18) = 0 := k 9 (by decide) (by decide +kernel)
  have q10 : ¬ lg_cmp v (((Int32.toInt64 0 * 32 + Int32.toInt64 1) * 32 + Int32.toInt64 4) * 32 + Int32.toInt64 4) = 0 := k 10 (by decide) (by decide +kernel)
  have q11 : ¬ lg_cmp v (((Int32.toInt64 6 * 32 + Int32.toInt64 12) * 32 + Int32.toInt64 1) * 32 + Int32.toInt64 20) = 0 := k 11 (by decide) (by decide +kernel)
  have q12 : ¬ lg_cmp v (((Int32.toInt64 4 * 32 + Int32.toInt64 5) * 32 + Int32.toInt64 1) * 32 + Int32.toInt64 12) = 0 := k 12 (by decide) (by decide +kernel)
  have q13 : ¬ lg_cmp v (((Int32.toInt64 20 * 32 + Int32.toInt64 21) * 32 + Int32.toInt64 18) * 32 + Int32.toInt64 14) = 0 := k 13 (by decide) (by decide +kernel)
  funext h
  simp only [fX13_deedOf, fX13_laterDeed, fX13_packed, dnB_eval, dnP, q0, q1, q2, q3, q4, q5, q6, q7, q8, q9, q10, q11, q12, q13, not_false_eq_true, if_true]
theorem n64_ltr : ∀ y, y < 27 → (nI y).toInt64 = Int64.ofNat y := by decide +kernel
theorem deed_A {t : Nat → Nat} {p m : Nat} (hl : ∀ i, i < m → 97 ≤ t (p + i) ∧ t (p + i) ≤ 122) : fX13_deedOf (if m ≤ 6 then Int64.ofNat (pkN t p m) else -1) = dnP (wcd (wdI t p m)) := by
  by_cases m6 : m ≤ 6
  · rw [if_pos m6]
    rcases wdI_cases t p m with ⟨e, hf⟩ | ⟨hw, h1, h2⟩
    · rw [e]
      refine deed_no (fun w hw hc => ?_)
      obtain ⟨w1, w2, w3, w4, w5, w6⟩ := wfacts w hw
      have b1 : pkN t p m < 32 ^ m := pkN_lt m hl
      have b2 : cw w < 32 ^ dnWl w := pkN_lt (dnWl w) (fun i hi => by rw [Nat.zero_add]; exact ⟨(w6 i hi).2.2.1, (w6 i hi).2.2.2⟩)
      have c1 : 32 ^ m ≤ 32 ^ 6 := Nat.pow_le_pow_right (by decide) m6
      have c2 : 32 ^ dnWl w ≤ 32 ^ 6 := Nat.pow_le_pow_right (by decide) w2
      have c3 : (32 : Nat) ^ 6 = 1073741824 := by decide
      have eq : pkN t p m = cw w := by
        have := congrArg Int64.toInt hc
        rw [Int64.toInt_ofNat_of_lt (by omega), Int64.toInt_ofNat_of_lt (by omega)] at this
        omega
      obtain ⟨k1, k2⟩ := pk_inj m (dnWl w) hl (fun i hi => by rw [Nat.zero_add]; exact ⟨(w6 i hi).2.2.1, (w6 i hi).2.2.2⟩) eq
      have : eqW t p m w = true := eqW_iff.mpr ⟨k1, fun i hi => by
        have := k2 i (by omega)
        rw [Nat.zero_add] at this
        exact this⟩
      rw [hf w hw] at this
      cases this
    · obtain ⟨k1, k2⟩ := eqW_iff.mp h1
      have eq : pkN t p m = cw (wdI t p m) := by
        have gen : ∀ j, j ≤ m → pkN t p j = pkN (lt (wdI t p m)) 0 j := by
          intro j
          induction j with
          | zero => intro _; rfl
          | succ j ih =>
            intro hj
            show 32 * pkN t p j + (t (p + j) - 96) = 32 * pkN (lt (wdI t p m)) 0 j + (lt (wdI t p m) (0 + j) - 96)
            rw [ih (by omega), k2 j (by omega), Nat.zero_add]
        unfold cw
        rw [← k1]
        exact gen m (Nat.le_refl _)
      rw [eq, Hf.val hf_deed (deed_w _ hw)]
      unfold wcd
      rw [if_pos hw]
  · rw [if_neg m6, Hf.val hf_deed deed_m]
    rcases wdI_cases t p m with ⟨e, hf⟩ | ⟨hw, h1, h2⟩
    · rw [e]; rfl
    · have := (eqW_iff.mp h1).1
      have := (wfacts _ hw).2.1
      omega
theorem word_r {h : dnH} {t : Nat → Nat} {n p : Nat} (hs : Sh h) (x : RTx h t n) (hn : n ≤ 80) (ht : ∀ i, i < n → t i < 256) (hp : p ≤ n) (h38 : h.2.1 289 38 = nI p) : ∃ h2 v, fX13_word (some 289) h = some (v, h2) ∧ fX13_deedOf v = dnP (wcd (wO t n p)) ∧ R9 (fun k => k = 38) h h2 ∧ h2.2.1 289 38 = nI (rn t n 97 122 p) := by
  obtain ⟨r1, r2, r3, r4⟩ := rn_sp (t := t) (lo := 97) (hi := 122) hp
  have hl : ∀ i, i < rn t n 97 122 p - p → 97 ≤ t (p + i) ∧ t (p + i) ≤ 122 := fun i hi => (of_decide_eq_true (r3 (p + i) (by omega) (by omega))).2
  have KK := it_inv (f := fX13_word_b4 (some 289)) (Q := fun q k => q = ((if rn t n 97 122 p - p ≤ 6 then Int64.ofNat (pkN t p (rn t n 97 122 p - p)) else -1), nI (rn t n 97 122 p - p)) ∧ R9 (fun k => k = 38) h k ∧ k.2.1 289 38 = nI (rn t n 97 122 p)) (fun j u k => u = ((if j ≤ 6 then Int64.ofNat (pkN t p j) else -1), nI j) ∧ R9 (fun k => k = 38) h k ∧ k.2.1 289 38 = nI (p + j)) (rn t n 97 122 p - p) 1000 0 (by omega) (by omega) ?_ ?_ (0, nI 0) h ⟨rfl, r9_rf, h38⟩
  · obtain ⟨q, h2, b1, rfl, b2, b3⟩ := KK
    rw [nI_0] at b1
    refine ⟨h2, _, ?_, deed_A hl, b2, b3⟩
    have e6 : (nI (rn t n 97 122 p - p) ≤ 6) ↔ rn t n 97 122 p - p ≤ 6 := nI_leI (b := 6) (by omega) (by decide)
    simp only [fX13_word, dnB_eval, b1, e6]
    by_cases c : rn t n 97 122 p - p ≤ 6
    · simp only [c, if_true, dnP]
    · simp only [c, if_false, dnP]
  · rintro j u k hj ⟨rfl, ek, e38⟩
    left
    have sk := ek.1.sh hs
    have xk := x.go ek (by decide)
    have il := isLet_r sk xk hn ht (show p + j ≤ n by omega)
    rw [r3 (p + j) (by omega) (by omega)] at il
    obtain ⟨a1, a2⟩ := hl j hj
    have e6 : ((6 : Int32) ≤ nI j) ↔ 6 ≤ j := nI_leI (a := 6) (by decide) (by omega)
    have ej : nI (p + j + 1) = nI (p + (j + 1)) := rfl
    by_cases c : 6 ≤ j
    · refine ⟨(-1, nI (j + 1)), dnSI k 289 38 (nI (p + (j + 1))), ?_, by rw [if_neg (by omega)], ek.tr (r9_SI rfl), by simp [dnSI, dnUp]⟩
      simp only [fX13_word_b4, fX13_word_j46, dnB_eval, g_289_38 sk, e38, v_289 sk, il, if_true, e6.mpr c, p_289_38 sk, nI_1, ej, dnP]
    · have c6 : ¬ ((6 : Int32) ≤ nI j) := fun hc => c (e6.mp hc)
      have ev : (32 : Int64) * Int64.ofNat (pkN t p j) + (nI (t (p + j)) - 96).toInt64 = Int64.ofNat (pkN t p (j + 1)) := by
        rw [show (96 : Int32) = nI 96 from rfl, nI_sub (by omega), n64_ltr _ (by omega), show (32 : Int64) = Int64.ofNat 32 from rfl, ← Int64.ofNat_mul, ← Int64.ofNat_add]
        rfl
      refine ⟨(Int64.ofNat (pkN t p (j + 1)), nI (j + 1)), dnSI k 289 38 (nI (p + (j + 1))), ?_, by rw [if_pos (by omega)], ek.tr (r9_SI rfl), by simp [dnSI, dnUp]⟩
      simp only [fX13_word_b4, fX13_word_j46, dnB_eval, g_289_38 sk, e38, v_289 sk, il, if_true, c6, if_false, g_289_36 sk, rtx_A sk xk hn (show p + j < n by omega), show j ≤ 6 by omega, ev, p_289_38 sk, nI_1, ej, dnP]
  · rintro u k ⟨rfl, ek, e38⟩
    have sk := ek.1.sh hs
    have xk := x.go ek (by decide)
    rw [show p + (rn t n 97 122 p - p) = rn t n 97 122 p by omega] at e38
    have il := isLet_r sk xk hn ht r2
    rw [r4] at il
    exact ⟨_, k, by simp only [fX13_word_b4, dnB_eval, g_289_38 sk, e38, v_289 sk, il, Bool.false_eq_true, if_false, dnP], rfl, ek, e38⟩
theorem number_r {h : dnH} {t : Nat → Nat} {n p : Nat} (hs : Sh h) (x : RTx h t n) (hn : n ≤ 80) (ht : ∀ i, i < n → t i < 256) (hp : p ≤ n) (h38 : h.2.1 289 38 = nI p) : ∃ h2, fX13_readsNumber (some 289) h = some (decide (rn t n 48 57 p ≠ p ∧ rn t n 48 57 p ≤ p + 2), h2) ∧ R9 (fun k => k = 38 ∨ k = 39) h h2 ∧ h2.2.1 289 38 = nI (if rn t n 48 57 p ≠ p ∧ rn t n 48 57 p ≤ p + 2 then rn t n 48 57 p else p) ∧ (rn t n 48 57 p ≠ p ∧ rn t n 48 57 p ≤ p + 2 → h2.2.1 289 39 = nI (dg t p (rn t n 48 57 p - p))) := by
  obtain ⟨r1, r2, r3, r4⟩ := rn_sp (t := t) (lo := 48) (hi := 57) hp
  obtain ⟨e, ee⟩ : ∃ e, e = rn t n 48 57 p := ⟨_, rfl⟩
  rw [← ee] at r1 r2 r3 r4 ⊢
  have s0 : Sh (dnSI h 289 39 0) := hs
  have KK := it_inv (f := fX13_readsNumber_b10 (some 289) (nI p)) (Q := fun _ k => R9 (fun k => k = 38 ∨ k = 39) h k ∧ k.2.1 289 38 = nI e ∧ k.2.1 289 39 = nI (dg t p (min (e - p) 2))) (fun j _ k => R9 (fun k => k = 38 ∨ k = 39) h k ∧ k.2.1 289 38 = nI (p + j) ∧ k.2.1 289 39 = nI (dg t p (min j 2))) (e - p) 1000 0 (by omega) (by omega) ?_ ?_ () (dnSI h 289 39 0) ⟨r9_SI (.inr rfl), (by rw [Nat.add_zero, ← h38]; simp [dnSI, dnUp]), (by simp [dnSI, dnUp]; rfl)⟩
  · obtain ⟨q, h2, b1, b2, b3, b4⟩ := KK
    have s2 := b2.1.sh hs
    have es : nI e - nI p = nI (e - p) := nI_sub r1
    have e1 : (nI (e - p) < 1) ↔ e - p < 1 := nI_ltI (b := 1) (by omega) (by decide)
    have e2 : (nI (e - p) ≤ 2) ↔ e - p ≤ 2 := nI_leI (b := 2) (by omega) (by decide)
    have e3 : (nI (e - p) = 1) ↔ e - p = 1 := nI_eq (b := 1) (by omega) (by decide)
    have e4 : (nI (e - p) = 2) ↔ e - p = 2 := nI_eq (b := 2) (by omega) (by decide)
    by_cases c : e ≠ p ∧ e ≤ p + 2
    · refine ⟨h2, ?_, b2, by rw [if_pos c]; exact b3, fun _ => by rw [b4, Nat.min_eq_left (by omega)]⟩
      rw [decide_eq_true c]
      have n1 : ¬ (nI (e - p) < 1) := fun hc => by have := e1.mp hc; omega
      simp only [fX13_readsNumber, fX13_readsNumber_j97, fX13_readsNumber_j107, dnB_eval, g_289_38 hs, h38, p_289_39 hs, b1, g_289_38 s2, b3, es, n1, if_false, e2.mpr (show e - p ≤ 2 by omega), if_true, e3, e4]
      by_cases c1 : e - p = 1
      · simp only [c1, if_true, dnP]
      · simp only [show e - p = 2 by omega, show ¬ ((2 : Nat) = 1) by decide, if_false, not_true_eq_false, dnP]
    · refine ⟨dnSI h2 289 38 (nI p), ?_, b2.tr (r9_SI (.inl rfl)), by rw [if_neg c]; simp [dnSI, dnUp], fun hc => absurd hc c⟩
      rw [decide_eq_false c]
      have n3 : ¬ e - p = 1 := by omega
      have n4 : ¬ e - p = 2 := by omega
      by_cases c1 : e - p < 1
      · simp only [fX13_readsNumber, fX13_readsNumber_j92, fX13_readsNumber_j97, dnB_eval, g_289_38 hs, h38, p_289_39 hs, b1, g_289_38 s2, b3, es, e1.mpr c1, if_true, p_289_38 s2, e3, e4, n3, n4, if_false, not_false_eq_true, dnP]
      · have n1 : ¬ (nI (e - p) < 1) := fun hc => c1 (e1.mp hc)
        have n2 : ¬ (nI (e - p) ≤ 2) := fun hc => by have := e2.mp hc; omega
        simp only [fX13_readsNumber, fX13_readsNumber_j92, fX13_readsNumber_j97, dnB_eval, g_289_38 hs, h38, p_289_39 hs, b1, g_289_38 s2, b3, es, n1, n2, p_289_38 s2, e3, e4, n3, n4, if_false, not_false_eq_true, if_true, dnP]
  · rintro j u k hj ⟨ek, e38, e39⟩
    left
    have sk := ek.1.sh hs
    have xk := x.go ek (by decide)
    have il := isFig_r sk xk hn ht (show p + j ≤ n by omega)
    rw [r3 (p + j) (by omega) (by omega)] at il
    have h48 := (of_decide_eq_true (r3 (p + j) (by omega) (by omega))).2
    have es : nI (p + j) - nI p = nI j := by rw [nI_sub (by omega), show p + j - p = j by omega]
    have e2 : ((2 : Int32) ≤ nI j) ↔ 2 ≤ j := nI_leI (a := 2) (by decide) (by omega)
    have ej : nI (p + j + 1) = nI (p + (j + 1)) := rfl
    obtain ⟨v, hv⟩ : ∃ v, v = nI (dg t p (min (j + 1) 2)) := ⟨_, rfl⟩
    refine ⟨(), dnSI (dnSI k 289 39 v) 289 38 (nI (p + (j + 1))), ?_, (ek.tr (r9_SI (.inr rfl))).tr (r9_SI (.inl rfl)), (by simp [dnSI, dnUp]), ?_⟩
    · have s2 : Sh (dnSI k 289 39 v) := sk
      have e38' : (dnSI k 289 39 v).2.1 289 38 = nI (p + j) := by rw [← e38]; simp [dnSI, dnUp]
      by_cases c : 2 ≤ j
      · have ev : nI (dg t p (min j 2)) = v := by rw [hv, Nat.min_eq_right c, Nat.min_eq_right (by omega)]
        simp only [fX13_readsNumber_b10, fX13_readsNumber_j59, dnB_eval, g_289_38 sk, e38, v_289 sk, il, if_true, es, e2.mpr c, g_289_39 sk, e39, ev, p_289_39 sk, g_289_38 s2, e38', p_289_38 s2, nI_1, ej, dnP]
      · have nc : ¬ ((2 : Int32) ≤ nI j) := fun hc => c (e2.mp hc)
        have ev : ((10 : Int32) * nI (dg t p (min j 2)) + nI (t (p + j))) - 48 = v := by
          rw [hv, Nat.min_eq_left (by omega), Nat.min_eq_left (by omega), show (10 : Int32) = nI 10 from rfl, nI_mul, nI_add, show (48 : Int32) = nI 48 from rfl, nI_sub (by omega)]
          rfl
        simp only [fX13_readsNumber_b10, fX13_readsNumber_j59, dnB_eval, g_289_38 sk, e38, v_289 sk, il, if_true, es, nc, if_false, g_289_39 sk, e39, g_289_36 sk, rtx_A sk xk hn (show p + j < n by omega), ev, p_289_39 sk, g_289_38 s2, e38', p_289_38 s2, nI_1, ej, dnP]
    · rw [← hv]
      simp [dnSI, dnUp]
  · rintro u k ⟨ek, e38, e39⟩
    have sk := ek.1.sh hs
    have xk := x.go ek (by decide)
    rw [show p + (e - p) = e by omega] at e38
    have il := isFig_r sk xk hn ht r2
    rw [r4] at il
    exact ⟨(), k, by simp only [fX13_readsNumber_b10, dnB_eval, g_289_38 sk, e38, v_289 sk, il, Bool.false_eq_true, if_false, dnP], ek, e38, e39⟩
