/-! ABS 48: block: class, all -/
def okR (o : Option Rw) : Bool := match o with | none => false | some R => decide (R.1 < 8) && tk 4 R.1
def lnR (o : Option Rw) : Nat := match o with | none => 0 | some R => R.2.1
def wdt (A : Ab) (G p : Nat) : Nat → Nat
  | 0 => 12
  | t + 1 => min (wdt A G p t) (lnR (gv A (6 * G + (p + t))))
def al (A : Ab) (G p : Nat) : Nat → Bool
  | 0 => true
  | t + 1 => al A G p t && okR (gv A (6 * G + (p + t)))
def bY (A : Ab) (G p x : Nat) (s : Int32 × Int64) : Nat → Int32 × Int64
  | 0 => s
  | t + 1 => if al A G p (t + 1) = true then bz A G p x (p + t) (bY A G p x s t) (wdt A G p (t + 1) - x) else bY A G p x s t
theorem wdt_le {A : Ab} {G p : Nat} : ∀ t, wdt A G p t ≤ 12 := by
  intro t
  induction t with
  | zero => exact Nat.le_refl _
  | succ t ih => exact Nat.le_trans (Nat.min_le_left _ _) ih
theorem al_stop {A : Ab} {G p t : Nat} (h : al A G p t = false) : ∀ d, al A G p (t + d) = false := by
  intro d
  induction d with
  | zero => exact h
  | succ d ih =>
    show (al A G p (t + d) && _) = false
    rw [ih, Bool.false_and]
theorem bY_stop {A : Ab} {G p x t : Nat} {s : Int32 × Int64} (h : al A G p (t + 1) = false) : ∀ d, bY A G p x s (t + d) = bY A G p x s t := by
  intro d
  induction d with
  | zero => rfl
  | succ d ih =>
    show (if al A G p (t + d + 1) = true then _ else bY A G p x s (t + d)) = _
    have := al_stop h d
    rw [show t + 1 + d = t + d + 1 by omega] at this
    rw [this, ih]
    rfl
theorem try_c {B : Nat} {A : Ab} (w : Wf B [] A) {G m p x : Nat} (hG : G < 4) (hm : m ≤ 6) (e1 : A.1 G = nI m) (hp : p < m) (hx : x < 12) {h0 h : dnH} {s : Int32 × Int64} (c : CS h0 sp0 [] h A) (hs : Bs h s) : ∃ h2, fX7_tryBlocks (some 270) (nI G) (nI p) (nI x) h = some ((), h2) ∧ CS h0 sp0 [] h2 A ∧ Bs h2 (bY A G p x s (m - p)) := by
  have fl := fillL (v := 0) (c.1.1 (273, 102, 12) (by decide)) (by decide)
  have c1 : CS h0 sp0 [] (flL h 273 12 0) A := fr270 c (a := 273) (by decide) (by decide) ⟨rfl, rfl, fun z hz => ⟨rfl, (by funext i; simp [flL, dnUpA, hz]), rfl⟩⟩
  have col0 : ∀ z, z < 12 → (flL h 273 12 0).2.2.1 273 z = 0 := fun z hz => by simp [flL, dnUpA, hz]
  have hs1 : Bs (flL h 273 12 0) s := ⟨hs.1, fun hq => by rw [← hs.2 hq]; simp [flL, dnUpA]⟩
  have KK := it_inv (f := fX7_tryBlocks_b15 (some 270) (nI G) (nI p) (nI x)) (Q := fun _ k => CS h0 sp0 [] k A ∧ Bs k (bY A G p x s (m - p))) (fun t u k => u = (nI (wdt A G p t), nI (p + t)) ∧ al A G p t = true ∧ CS h0 sp0 [] k A ∧ (∀ z, x ≤ z → z < wdt A G p t → k.2.2.1 273 z = csS A G p z t) ∧ Bs k (bY A G p x s t)) (m - p) 1000 0 (by omega) (by omega) ?_ ?_ (12, nI p) _ ⟨rfl, rfl, c1, fun z h1 h2 => col0 z h2, hs1⟩
  · obtain ⟨q, h2, b1, c2, b2⟩ := KK
    refine ⟨h2, ?_, c2, b2⟩
    cases q with
    | inl q => simp only [fX7_tryBlocks, dnB_eval, g_270_4 c.1, fl, b1, Sum.elim_inl, dnP]
    | inr q => simp only [fX7_tryBlocks, dnB_eval, g_270_4 c.1, fl, b1, Sum.elim_inr, dnP]
  · rintro t u k ht ⟨rfl, ha, ck, gk, sk⟩
    have hc : ¬ (nI m ≤ nI (p + t)) := fun hc => by have := (nI_leI (a := m) (b := p + t) (by omega) (by omega)).mp hc; omega
    have pl := plc_A ck hG
    rw [e1] at pl
    have ea : al A G p (t + 1) = okR (gv A (6 * G + (p + t))) := by
      show (al A G p t && _) = _
      rw [ha, Bool.true_and]
    have stop : okR (gv A (6 * G + (p + t))) = false → Bs k (bY A G p x s (m - p)) := fun hq => by
      rw [hq] at ea
      have := bY_stop (x := x) (s := s) ea (m - p - t)
      rw [show t + (m - p - t) = m - p by omega] at this
      rw [this]
      exact sk
    rcases gv_A w hG hm e1 (show p + t < m by omega) with ⟨e, kc, -⟩ | ⟨r, hr, e, -, hl, o, kc, -⟩
    · right
      exact ⟨.inr (), k, by simp only [fX7_tryBlocks_b15, dnB_eval, g_270_0 ck.1, sg_0 (st1 ck.1), pl, hc, if_false, sv (st1 ck.1), kc h0 _ _ k ck, Option.elim, dnP], ck, stop (by rw [e]; rfl)⟩
    · have N1 := o.2.1
      have rd := c_readsAs o.1 (show 4 < 12 by decide)
      have rd : fX12_readsAs (nI (A.2.2.1 r).1) 4 = dnP (decide ((A.2.2.1 r).1 < 8) && true && tk 4 (A.2.2.1 r).1) := rd
      rw [Bool.and_true] at rd
      have eo : okR (gv A (6 * G + (p + t))) = (decide ((A.2.2.1 r).1 < 8) && tk 4 (A.2.2.1 r).1) := by rw [e]; rfl
      have rr := ck.row hr (hl _)
      cases hq : (decide ((A.2.2.1 r).1 < 8) && tk 4 (A.2.2.1 r).1)
      · right
        rw [hq] at rd eo
        exact ⟨.inr (), k, by simp only [fX7_tryBlocks_b15, dnB_eval, g_270_0 ck.1, sg_0 (st1 ck.1), pl, hc, if_false, sv (st1 ck.1), kc h0 _ _ k ck, Option.elim, rg_i (row1 ck.1 hr), rr.1, rd, Bool.false_eq_true, dnP], ck, stop eo⟩
      · left
        rw [hq] at rd eo
        have wl := wdt_le (A := A) (G := G) (p := p) t
        have ew : wdt A G p (t + 1) = min (wdt A G p t) (A.2.2.1 r).2.1 := by
          show min (wdt A G p t) (lnR (gv A (6 * G + (p + t)))) = _
          rw [e]
          rfl
        have mn : fJ9_min_7cf53 (nI (wdt A G p t)) (nI (A.2.2.1 r).2.1) k = some (nI (wdt A G p (t + 1)), k) := by
          rw [ew]
          simp only [fJ9_min_7cf53, nI_ltI (show (A.2.2.1 r).2.1 < 2 ^ 31 by omega) (show wdt A G p t < 2 ^ 31 by omega)]
          by_cases q : (A.2.2.1 r).2.1 < wdt A G p t
          · rw [if_pos q, Nat.min_eq_right (by omega)]
            rfl
          · rw [if_neg q, Nat.min_eq_left (by omega)]
            rfl
        have hcol : ∀ z, x ≤ z → z < wdt A G p t → k.2.2.1 273 z = csS A G p z (p + t - p) := fun z h1 h2 => by
          rw [show p + t - p = t by omega]
          exact gk z h1 h2
        obtain ⟨h2, x1, x2, x3, x4⟩ := tryRow_c (G := G) (y := p + t) (wn := wdt A G p (t + 1)) ck hr (hl _) o e (by omega) hx wl (by rw [ew]; exact Nat.min_le_left _ _) hcol sk
        rw [show p + t + 1 - p = t + 1 by omega] at x3
        refine ⟨(nI (wdt A G p (t + 1)), nI (p + (t + 1))), h2, ?_, rfl, by rw [ea, eo], x2, x3, ?_⟩
        · have ej : nI (p + t + 1) = nI (p + (t + 1)) := rfl
          simp only [fX7_tryBlocks_b15, dnB_eval, g_270_0 ck.1, sg_0 (st1 ck.1), pl, hc, if_false, sv (st1 ck.1), kc h0 _ _ k ck, Option.elim, rg_i (row1 ck.1 hr), rr.1, rr.2.1, rd, if_true, mn, x1, dnP, nI_1, ej]
        · show Bs h2 (if al A G p (t + 1) = true then _ else _)
          rw [ea, eo, if_pos rfl]
          exact x4
  · rintro u k ⟨rfl, ha, ck, gk, sk⟩
    have pl := plc_A ck hG
    rw [e1] at pl
    have hc : nI m ≤ nI (p + (m - p)) := (nI_leI (by omega) (by omega)).mpr (by omega)
    exact ⟨.inl (), k, by simp only [fX7_tryBlocks_b15, dnB_eval, g_270_0 ck.1, sg_0 (st1 ck.1), pl, hc, if_true, dnP], ck, sk⟩
def bX (A : Ab) (G m p : Nat) (s : Int32 × Int64) : Nat → Int32 × Int64
  | 0 => s
  | x + 1 => bY A G p x (bX A G m p s x) (m - p)
def bP (A : Ab) (G m : Nat) : Nat → Int32 × Int64
  | 0 => (-9, 0)
  | p + 1 => bX A G m p (bP A G m p) 12
theorem all_c {B : Nat} {A : Ab} (w : Wf B [] A) {G m : Nat} (hG : G < 4) (hm : m ≤ 6) (e1 : A.1 G = nI m) {h0 h : dnH} (c : CS h0 sp0 [] h A) (hs : Bs h (-9, 0)) : ∃ h2, dnIt 1000 (fX7_bestBlock_b23 (some 270) (nI G)) 0 h = some ((), h2) ∧ CS h0 sp0 [] h2 A ∧ Bs h2 (bP A G m m) := by
  have KK := it_inv (f := fX7_bestBlock_b23 (some 270) (nI G)) (Q := fun _ k => CS h0 sp0 [] k A ∧ Bs k (bP A G m m)) (fun p u k => u = nI p ∧ CS h0 sp0 [] k A ∧ Bs k (bP A G m p)) m 1000 0 (by omega) (by omega) ?_ ?_ 0 h ⟨rfl, c, hs⟩
  · obtain ⟨_, h2, b1, b2⟩ := KK
    exact ⟨h2, b1, b2⟩
  · rintro p u k hp ⟨rfl, ck, sk⟩
    left
    have hc : ¬ (nI m ≤ nI p) := fun hc => by have := (nI_leI (a := m) (b := p) (by omega) (by omega)).mp hc; omega
    have pl := plc_A ck hG
    rw [e1] at pl
    have LL := it_inv (f := fX7_bestBlock_b39 (some 270) (nI G) (nI p)) (Q := fun _ k2 => CS h0 sp0 [] k2 A ∧ Bs k2 (bX A G m p (bP A G m p) 12)) (fun x u k2 => u = nI x ∧ CS h0 sp0 [] k2 A ∧ Bs k2 (bX A G m p (bP A G m p) x)) 12 1000 0 (by omega) (by omega) ?_ ?_ 0 k ⟨rfl, ck, sk⟩
    · obtain ⟨_, h2, b1, b2, b3⟩ := LL
      exact ⟨nI (p + 1), h2, by simp only [fX7_bestBlock_b23, dnB_eval, g_270_0 ck.1, sg_0 (st1 ck.1), pl, hc, if_false, b1, dnP, nI_1], rfl, b2, b3⟩
    · rintro x u k2 hx ⟨rfl, ck2, sk2⟩
      left
      have hc : ¬ ((12 : Int32) ≤ nI x) := fun hc => by have := (nI_leI (a := 12) (b := x) (by omega) (by omega)).mp hc; omega
      obtain ⟨h2, x1, x2, x3⟩ := try_c w hG hm e1 hp hx ck2 sk2
      exact ⟨nI (x + 1), h2, by simp only [fX7_bestBlock_b39, hc, if_false, dnB_eval, v_270 ck2.1, x1, dnP, nI_1], rfl, x2, x3⟩
    · rintro u k2 ⟨rfl, ck2, sk2⟩
      exact ⟨(), k2, by simp only [fX7_bestBlock_b39, show (12 : Int32) ≤ nI 12 by decide, if_true, dnP], ck2, sk2⟩
  · rintro u k ⟨rfl, ck, sk⟩
    have pl := plc_A ck hG
    rw [e1] at pl
    exact ⟨(), k, by simp only [fX7_bestBlock_b23, dnB_eval, g_270_0 ck.1, sg_0 (st1 ck.1), pl, Int32.le_refl, if_true, dnP], ck, sk⟩
