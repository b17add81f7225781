/-! ABS 45: block: the reference's sums -/
def rdR (o : Option Rw) (z : Nat) : Bool := match o with | none => false | some R => decide (z < R.2.1) && (decide (R.1 < 8) && tk 4 R.1)
def nmR (o : Option Rw) (z : Nat) : Int64 := match o with | none => 0 | some R => (R.2.2 z).2.1
def rowS (o : Option Rw) (x : Nat) : Nat → Int64
  | 0 => 0
  | n + 1 => rowS o x n + nmR o (x + n)
def blS (A : Ab) (G p x n : Nat) : Nat → Int64
  | 0 => 0
  | k + 1 => blS A G p x n k + rowS (gv A (6 * G + (p + k))) x n
theorem set27 {h0 h : dnH} {X : List Nat} {A : Ab} (c : RS h0 X h A) (w : Int64) : RS h0 X (dnSL h 289 27 w) A := c.fr (eqc_SL (by unfold Pn; decide)) ⟨(by simp [dnSL, dnUp]), rfl, rfl, rfl, rfl⟩
theorem blockRow_r {q0 h : dnH} {A : Ab} {G k r x z : Nat} {v : Int64} {y : Int32} (c : RS q0 [] h A) (hr : r < 31) (hl : live [] A r) (hx : x ≤ z) (hz : z < 12) (hd : ∀ k', RS q0 [] k' A → fX13_held (some 289) (nI G) (nI k) k' = some (nI r, k')) (hv : h.2.2.1 289 27 = v) : ∃ h2, dnIt 1000 (fX13_isBlock_b47 (some 289) (nI G) y (nI x) (nI z) (nI k)) (nI x) h = some ((), h2) ∧ RS q0 [] h2 A ∧ h2.2.2.1 289 27 = v + rowS (some (A.2.2.1 r)) x (z + 1 - x) := by
  have KK := it_inv (f := fX13_isBlock_b47 (some 289) (nI G) y (nI x) (nI z) (nI k)) (Q := fun _ k' => RS q0 [] k' A ∧ k'.2.2.1 289 27 = v + rowS (some (A.2.2.1 r)) x (z + 1 - x)) (fun j s k' => s = nI (x + j) ∧ RS q0 [] k' A ∧ k'.2.2.1 289 27 = v + rowS (some (A.2.2.1 r)) x j) (z + 1 - x) 1000 0 (by omega) (by omega) ?_ ?_ (nI x) h ⟨rfl, c, by rw [hv]; exact (Int64.add_zero _).symm⟩
  · obtain ⟨_, h2, b1, c2, e2⟩ := KK
    exact ⟨h2, b1, c2, e2⟩
  · rintro j s k' hj ⟨rfl, ck, ek⟩
    left
    have hc : ¬ (nI z < nI (x + j)) := fun hc => by have := (nI_ltI (a := z) (b := x + j) (by omega) (by omega)).mp hc; omega
    have nm := num_A ck hr hl (show x + j < 12 by omega)
    refine ⟨nI (x + (j + 1)), dnSL k' 289 27 (v + rowS (some (A.2.2.1 r)) x j + ((A.2.2.1 r).2.2 (x + j)).2.1), ?_, rfl, set27 ck _, ?_⟩
    · simp only [fX13_isBlock_b47, hc, if_false, dnB_eval, g_289_27 ck.1, ek, g_289_10 ck.1, v_289 ck.1, hd k' ck, at_r, nm, p_289_27 ck.1, dnP, nI_1, Nat.add_assoc]
    · have e : (dnSL k' 289 27 (v + rowS (some (A.2.2.1 r)) x j + ((A.2.2.1 r).2.2 (x + j)).2.1)).2.2.1 289 27 = v + rowS (some (A.2.2.1 r)) x j + ((A.2.2.1 r).2.2 (x + j)).2.1 := by simp [dnSI, dnSL, dnSD, dnUp]
      rw [e, Int64.add_assoc]
      rfl
  · rintro s k' ⟨rfl, ck, ek⟩
    have hc : nI z < nI (x + (z + 1 - x)) := (nI_ltI (by omega) (by omega)).mpr (by omega)
    exact ⟨(), k', by simp only [fX13_isBlock_b47, hc, if_true, dnP], ck, ek⟩
theorem isBlock_A {B : Nat} {A : Ab} (w : Wf B [] A) {G m p y x z : Nat} (hG : G < 4) (hm : m ≤ 6) (e1 : A.1 G = nI m) (hp : p ≤ y) (hy : y < m) (hx : x ≤ z) (hz : z < 12) {q0 h : dnH} (c : RS q0 [] h A) : ∃ b h2, fX13_isBlock (some 289) (nI G) (nI p) (nI y) (nI x) (nI z) h = some (b, h2) ∧ RS q0 [] h2 A ∧ (b = true ↔ ∀ k, p ≤ k → k ≤ y → rdR (gv A (6 * G + k)) z = true) ∧ (b = true → h2.2.2.1 289 27 = blS A G p x (z + 1 - x) (y + 1 - p)) := by
  have c1 := set27 c 0
  have e0 : (dnSL h 289 27 0).2.2.1 289 27 = 0 := by simp [dnSI, dnSL, dnSD, dnUp]
  have KK := it_inv (f := fX13_isBlock_b8 (some 289) (nI G) (nI y) (nI x) (nI z)) (Q := fun q k' => RS q0 [] k' A ∧ ((q = .inl () ∧ (∀ k, p ≤ k → k ≤ y → rdR (gv A (6 * G + k)) z = true) ∧ k'.2.2.1 289 27 = blS A G p x (z + 1 - x) (y + 1 - p)) ∨ (q = .inr false ∧ ∃ k, p ≤ k ∧ k ≤ y ∧ rdR (gv A (6 * G + k)) z = false))) (fun j s k' => s = nI (p + j) ∧ RS q0 [] k' A ∧ (∀ k, p ≤ k → k < p + j → rdR (gv A (6 * G + k)) z = true) ∧ k'.2.2.1 289 27 = blS A G p x (z + 1 - x) j) (y + 1 - p) 1000 0 (by omega) (by omega) ?_ ?_ (nI p) _ ⟨rfl, c1, fun k h1 h2 => by omega, e0⟩
  · obtain ⟨q, h2, b1, c2, b2⟩ := KK
    rcases b2 with ⟨rfl, a1, a2⟩ | ⟨rfl, k, k1, k2, k3⟩
    · exact ⟨true, h2, by simp only [fX13_isBlock, dnB_eval, p_289_27 c.1, b1, Sum.elim_inl, dnP], c2, ⟨fun _ => a1, fun _ => rfl⟩, fun _ => a2⟩
    · refine ⟨false, h2, by simp only [fX13_isBlock, dnB_eval, p_289_27 c.1, b1, Sum.elim_inr, dnP], c2, ⟨fun hc => (by cases hc), fun hc => ?_⟩, fun hc => (by cases hc)⟩
      have := hc k k1 k2
      rw [k3] at this
      cases this
  · rintro j s k' hj ⟨rfl, ck, gk, ek⟩
    have hc : ¬ (nI y < nI (p + j)) := fun hc => by have := (nI_ltI (a := y) (b := p + j) (by omega) (by omega)).mp hc; omega
    have hcl := hasCell_N (j := z) w hG hm e1 (show p + j < m by omega) (by omega) q0 _ k' ck
    rcases gv_A w hG hm e1 (show p + j < m by omega) with ⟨e, -, kr⟩ | ⟨r, hr, e, -, hl, o, -, kr⟩
    · right
      rw [e] at hcl
      dsimp only at hcl
      exact ⟨.inr false, k', by simp only [fX13_isBlock_b8, hc, if_false, dnB_eval, v_289 ck.1, hcl, Bool.false_eq_true, dnP], ck, .inr ⟨rfl, p + j, by omega, by omega, by rw [e]; rfl⟩⟩
    · rw [e] at hcl
      dsimp only at hcl
      have ird := isReadable_A (a := 4) ck hr (hl _) o.1 (by decide)
      have ird : fX13_isReadable (some 289) (nI r) 4 k' = _ := ird
      have er : rdR (gv A (6 * G + (p + j))) z = (decide (z < (A.2.2.1 r).2.1) && (decide ((A.2.2.1 r).1 < 8) && tk 4 (A.2.2.1 r).1)) := by rw [e]; rfl
      cases hh : decide (z < (A.2.2.1 r).2.1)
      · right
        rw [hh] at hcl er
        exact ⟨.inr false, k', by simp only [fX13_isBlock_b8, hc, if_false, dnB_eval, v_289 ck.1, hcl, Bool.false_eq_true, dnP], ck, .inr ⟨rfl, p + j, by omega, by omega, er⟩⟩
      · rw [hh] at hcl er
        cases hq : (decide ((A.2.2.1 r).1 < 8) && tk 4 (A.2.2.1 r).1)
        · right
          rw [hq] at ird er
          exact ⟨.inr false, k', by simp only [fX13_isBlock_b8, hc, if_false, dnB_eval, v_289 ck.1, hcl, if_true, (kr q0 _ k' ck).2, ird, Bool.false_eq_true, dnP], ck, .inr ⟨rfl, p + j, by omega, by omega, er⟩⟩
        · left
          rw [hq] at ird er
          obtain ⟨h2, x1, x2, x3⟩ := blockRow_r (G := G) (k := p + j) (y := nI y) ck hr (hl _) hx hz (fun k2 r2 => (kr q0 _ k2 r2).2) ek
          refine ⟨nI (p + (j + 1)), h2, by simp only [fX13_isBlock_b8, hc, if_false, dnB_eval, v_289 ck.1, hcl, if_true, (kr q0 _ k' ck).2, ird, x1, dnP, nI_1, Nat.add_assoc], rfl, x2, fun k h1 h2 => ?_, ?_⟩
          · by_cases q : k = p + j
            · rw [q]; exact er
            · exact gk k h1 (by omega)
          · rw [x3, ← e]
            rfl
  · rintro s k' ⟨rfl, ck, gk, ek⟩
    have hc : nI y < nI (p + (y + 1 - p)) := (nI_ltI (by omega) (by omega)).mpr (by omega)
    exact ⟨.inl (), k', by simp only [fX13_isBlock_b8, hc, if_true, dnP], ck, .inl ⟨rfl, fun k h1 h2 => gk k h1 (by omega), ek⟩⟩
