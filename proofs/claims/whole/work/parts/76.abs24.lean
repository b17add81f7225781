/-! ABS 24: the rows of a grid; flat -/
def gr (A : Ab) (k : Nat) : Option Nat := if A.2.1 k < 0 then none else some (A.2.1 k).toNatClampNeg
theorem gr_A {B : Nat} {X : List Nat} {A : Ab} (w : Wf B X A) {G p m : Nat} (hG : G < 4) (hm : m ≤ 6) (e1 : A.1 G = nI m) (hp : p < m) :
    (gr A (6 * G + p) = none ∧ (∀ h0 S Y h, CS h0 S Y h A → fX9_rowAt (some 1) (nI G) (nI p) h = some (none, h)) ∧ ∀ q0 Y k, RS q0 Y k A → fX13_isRow (some 289) (nI G) (nI p) k = some (false, k)) ∨
    (∃ r, r < 31 ∧ gr A (6 * G + p) = some r ∧ A.2.1 (6 * G + p) = nI r ∧ (∀ Y, live Y A r) ∧ rwOk B (A.2.2.1 r) ∧ (∀ h0 S Y h, CS h0 S Y h A → fX9_rowAt (some 1) (nI G) (nI p) h = some (some (5 + 4 * r), h)) ∧ ∀ q0 Y k, RS q0 Y k A → fX13_isRow (some 289) (nI G) (nI p) k = some (true, k) ∧ fX13_held (some 289) (nI G) (nI p) k = some (nI r, k)) := by
  have neg : ∀ {x : Int32}, A.2.1 (6 * G + p) = x → x < 0 → rc x < 0 → gr A (6 * G + p) = none ∧ (∀ h0 S Y h, CS h0 S Y h A → fX9_rowAt (some 1) (nI G) (nI p) h = some (none, h)) ∧ ∀ q0 Y k, RS q0 Y k A → fX13_isRow (some 289) (nI G) (nI p) k = some (false, k) := fun {x} hx h0 h1 => by
    refine ⟨if_pos (by rw [hx]; exact h0), fun _ S Y h c => rowAt_no c.1 hG hm (by rw [c.pl hG, e1]) hp (by rw [c.hd (by omega), hx]; exact h0), fun q0 Y k r => ?_⟩
    have hd : fX13_held (some 289) (nI G) (nI p) k = some (rc x, k) := by rw [held_r r.1 hG (by omega), r.hd (by omega), hx]
    simp only [fX13_isRow, dnB_eval, v_289 r.1, hd, h1, if_true, dnP]
  rcases w.2.1 (6 * G + p) (by omega) with e | e | e | ⟨r, hr, e⟩
  · exact .inl (neg e (by decide) (by decide))
  · exact .inl (neg e (by decide) (by decide))
  · exact .inl (neg e (by decide) (by decide))
  · have hl : ∀ Y, live Y A r := fun Y => .inr ⟨_, by omega, e⟩
    refine .inr ⟨r, hr, ?_, e, hl, w.2.2.2 r hr (hl X), fun h0 S Y h c => rowAt_yes c.1 hG hm (by rw [c.pl hG, e1]) hp hr (by rw [c.hd (by omega), e]), fun q0 Y k rs => ?_⟩
    · unfold gr
      rw [e, if_neg (nI_pos (by omega)), nI_clamp (by omega)]
    · have hd : fX13_held (some 289) (nI G) (nI p) k = some (nI r, k) := by rw [held_r rs.1 hG (by omega), rs.hd (by omega), e, rc_nI hr]
      exact ⟨by simp only [fX13_isRow, dnB_eval, v_289 rs.1, hd, nI_pos (show r < 2 ^ 31 by omega), if_false, dnP], hd⟩
theorem gr_setR {A : Ab} {x k : Nat} {R : Rw} : gr (setR A x R) k = gr A k := rfl
theorem plc_A {h0 h : dnH} {S : Nat → Int32} {X : List Nat} {A : Ab} {G : Nat} (c : CS h0 S X h A) (hG : G < 4) : dnAI (some (1 + 1)) 100 (nI G) h = some (A.1 G, h) := by
  have e : h.2.1 (1 + 1) G = A.1 G := c.pl hG
  rw [sa_1 (st1 c.1), dnIn_nI (show G < 5 by omega) (by decide), nI_clamp (show G < 2 ^ 31 by omega), e]
  rfl
theorem plr_A {h0 h : dnH} {X : List Nat} {A : Ab} {G : Nat} (c : RS h0 X h A) (hG : G < 4) : dnAI (some 291) 100 (nI G) h = some (A.1 G, h) := by
  rw [a_291 c.1, dnIn_nI (show G < 4 by omega) (by decide), nI_clamp (show G < 2 ^ 31 by omega), c.pl hG]
  rfl
def flN (A : Ab) (G : Nat) : Nat → Nat
  | 0 => 0
  | p + 1 => flN A G p + (match gr A (6 * G + p) with | none => 0 | some r => (A.2.2.1 r).2.1)
def flS (A : Ab) (G : Nat) : Nat → Nat
  | 0 => 0
  | p + 1 => match gr A (6 * G + p) with | none => flS A G p | some r => flS A G p ||| 2 ^ (A.2.2.1 r).1
def flR (A : Ab) (G K n : Nat) : Nat → Rw
  | 0 => newR K n
  | p + 1 => match gr A (6 * G + p) with | none => flR A G K n p | some r => fillR (flR A G K n p) (flN A G p) (A.2.2.1 r).2.1 (fun k => cvt K ((A.2.2.1 r).2.2 k))
theorem flN_n {A : Ab} {G p : Nat} (e : gr A (6 * G + p) = none) : flN A G (p + 1) = flN A G p := by
  show flN A G p + (match gr A (6 * G + p) with | none => 0 | some r => (A.2.2.1 r).2.1) = _
  rw [e]
  rfl
theorem flN_s {A : Ab} {G p r : Nat} (e : gr A (6 * G + p) = some r) : flN A G (p + 1) = flN A G p + (A.2.2.1 r).2.1 := by
  show flN A G p + (match gr A (6 * G + p) with | none => 0 | some r => (A.2.2.1 r).2.1) = _
  rw [e]
theorem flS_n {A : Ab} {G p : Nat} (e : gr A (6 * G + p) = none) : flS A G (p + 1) = flS A G p := by
  show (match gr A (6 * G + p) with | none => flS A G p | some r => flS A G p ||| 2 ^ (A.2.2.1 r).1) = _
  rw [e]
theorem flS_s {A : Ab} {G p r : Nat} (e : gr A (6 * G + p) = some r) : flS A G (p + 1) = flS A G p ||| 2 ^ (A.2.2.1 r).1 := by
  show (match gr A (6 * G + p) with | none => flS A G p | some r => flS A G p ||| 2 ^ (A.2.2.1 r).1) = _
  rw [e]
theorem flR_n {A : Ab} {G K n p : Nat} (e : gr A (6 * G + p) = none) : flR A G K n (p + 1) = flR A G K n p := by
  show (match gr A (6 * G + p) with | none => flR A G K n p | some r => fillR (flR A G K n p) (flN A G p) (A.2.2.1 r).2.1 (fun k => cvt K ((A.2.2.1 r).2.2 k))) = _
  rw [e]
theorem flR_s {A : Ab} {G K n p r : Nat} (e : gr A (6 * G + p) = some r) : flR A G K n (p + 1) = fillR (flR A G K n p) (flN A G p) (A.2.2.1 r).2.1 (fun k => cvt K ((A.2.2.1 r).2.2 k)) := by
  show (match gr A (6 * G + p) with | none => flR A G K n p | some r => fillR (flR A G K n p) (flN A G p) (A.2.2.1 r).2.1 (fun k => cvt K ((A.2.2.1 r).2.2 k))) = _
  rw [e]
theorem flN_mono {A : Ab} {G p : Nat} : ∀ d, flN A G p ≤ flN A G (p + d) := by
  intro d
  induction d with
  | zero => exact Nat.le_refl _
  | succ d ih =>
    show flN A G p ≤ flN A G (p + d) + _
    omega
theorem flN_le {B : Nat} {X : List Nat} {A : Ab} (w : Wf B X A) {G m : Nat} (hG : G < 4) (hm : m ≤ 6) (e1 : A.1 G = nI m) : ∀ p, p ≤ m → flN A G p ≤ 12 * p := by
  intro p
  induction p with
  | zero => exact fun _ => Nat.le_refl _
  | succ p ih =>
    intro hp
    have := ih (by omega)
    rcases gr_A w hG hm e1 (show p < m by omega) with ⟨e, -⟩ | ⟨r, hr, e, -, -, o, -⟩
    · rw [flN_n e]; omega
    · rw [flN_s e]
      have := o.2.1
      omega
theorem flS_lt {B : Nat} {X : List Nat} {A : Ab} (w : Wf B X A) {G m : Nat} (hG : G < 4) (hm : m ≤ 6) (e1 : A.1 G = nI m) : ∀ p, p ≤ m → flS A G p < 4096 := by
  intro p
  induction p with
  | zero => exact fun _ => (by decide : 0 < 4096)
  | succ p ih =>
    intro hp
    have := ih (by omega)
    rcases gr_A w hG hm e1 (show p < m by omega) with ⟨e, -⟩ | ⟨r, hr, e, -, -, o, -⟩
    · rw [flS_n e]; exact this
    · rw [flS_s e]
      exact or_lt this o.1
theorem flS_bit {A : Ab} {G p r : Nat} (e : gr A (6 * G + p) = some r) : ∀ d, (flS A G (p + 1 + d)).testBit (A.2.2.1 r).1 = true := by
  intro d
  induction d with
  | zero =>
    rw [Nat.add_zero, flS_s e, Nat.testBit_or, Nat.testBit_two_pow_self, Bool.or_true]
  | succ d ih =>
    show (flS A G (p + 1 + d + 1)).testBit _ = true
    cases q : gr A (6 * G + (p + 1 + d)) with
    | none => rw [flS_n q]; exact ih
    | some t => rw [flS_s q, Nat.testBit_or, ih, Bool.true_or]
theorem flR_kd {A : Ab} {G K n : Nat} : ∀ p, (flR A G K n p).1 = K ∧ (flR A G K n p).2.1 = n := by
  intro p
  induction p with
  | zero => exact ⟨rfl, rfl⟩
  | succ p ih =>
    cases q : gr A (6 * G + p) with
    | none => rw [flR_n q]; exact ih
    | some t => rw [flR_s q]; exact ih
theorem flR_ok {B : Nat} {X : List Nat} {A : Ab} (hB : 16 ≤ B) (w : Wf B X A) {G m K n : Nat} (hG : G < 4) (hm : m ≤ 6) (e1 : A.1 G = nI m) (hK : K < 12) (hn : n ≤ 12) (ht : ∀ p, p < m → ∀ r, gr A (6 * G + p) = some r → ∀ i, i < 12 → tk K ((A.2.2.1 r).2.2 i).1 = true) : ∀ p, p ≤ m → rwOk B (flR A G K n p) := by
  intro p
  induction p with
  | zero => exact fun _ => rwOk_new hB hK hn
  | succ p ih =>
    intro hp
    have := ih (by omega)
    rcases gr_A w hG hm e1 (show p < m by omega) with ⟨e, -⟩ | ⟨r, hr, e, -, -, o, -⟩
    · rw [flR_n e]; exact this
    · rw [flR_s e]
      refine rwOk_fill this (fun k hk => ?_)
      rw [(flR_kd p).1]
      have h12 := o.2.1
      exact celOk_cvt hB hK (o.2.2 k (by omega)).1 (ht p (by omega) r e k (by omega)) (o.2.2 k (by omega)).2.2.2
theorem step_flat {B : Nat} (hB : 16 ≤ B) (g h q : Int32) : Step B B (fX11_flatten (some 268) g h q) (fX13_flatDeed (some 289) g h q) := by
  intro A w
  cases hg : inB g 0 3
  · exact step_ro (-1) w (fun h0 h c => by simp only [fX11_flatten, hg, dnB_eval, c_isGrid, c_isKind, c_isSort, c_isPlain, r_isGrid, r_isKind, r_isSort, r_isPlain, r_in, dnP, Bool.false_eq_true, if_false, if_true]) (fun q0 q r => by simp only [fX13_flatDeed, hg, dnB_eval, c_isGrid, c_isKind, c_isSort, c_isPlain, r_isGrid, r_isKind, r_isSort, r_isPlain, r_in, dnP, Bool.false_eq_true, if_false, if_true])
  cases hh2 : inB h 0 3
  · exact step_ro (-1) w (fun h0 h c => by simp only [fX11_flatten, hg, hh2, dnB_eval, c_isGrid, c_isKind, c_isSort, c_isPlain, r_isGrid, r_isKind, r_isSort, r_isPlain, r_in, dnP, Bool.false_eq_true, if_false, if_true]) (fun q0 q r => by simp only [fX13_flatDeed, hg, hh2, dnB_eval, c_isGrid, c_isKind, c_isSort, c_isPlain, r_isGrid, r_isKind, r_isSort, r_isPlain, r_in, dnP, Bool.false_eq_true, if_false, if_true])
  obtain ⟨G, hG, rfl⟩ := inB_of (n := 3) (by decide) hg
  have hG : G < 4 := by omega
  have z0 : (0 : Int32) ≤ 0 := by decide
  by_cases hneg : A.1 G < 0
  · have hn2 : ¬ 0 ≤ A.1 G := Int32.not_le.mpr hneg
    exact step_ro (-2) w (fun h0 h c => by simp only [fX11_flatten, fX11_flatten_j42, hg, hh2, g_268_0 c.1, sv (st1 c.1), gridFault_c c.1 hG, c.pl hG, hneg, show ¬ (-2 : Int32) = 0 by decide, not_false_eq_true, show ¬ (0 : Int32) ≤ -2 by decide, dnB_eval, c_isGrid, c_isKind, c_isSort, c_isPlain, r_isGrid, r_isKind, r_isSort, r_isPlain, r_in, dnP, Bool.false_eq_true, if_false, if_true]) (fun q0 k r => by simp only [fX13_flatDeed, fX13_flatDeed_j36, hg, hh2, g_289_4 r.1, plr_A r hG, hn2, show ¬ (-2 : Int32) = 0 by decide, dnB_eval, c_isGrid, c_isKind, c_isSort, c_isPlain, r_isGrid, r_isKind, r_isSort, r_isPlain, r_in, dnP, Bool.false_eq_true, if_false, if_true])
  have hn2 : 0 ≤ A.1 G := Int32.not_lt.mp hneg
  obtain ⟨m, hm, e1⟩ : ∃ m : Nat, m ≤ 6 ∧ A.1 G = nI m := by
    rcases w.1 G hG with e | e
    · rw [e] at hneg
      exact absurd (by decide) hneg
    · exact e
  rcases lookP w h q with ⟨f, f0, -, f2, f3⟩ | ⟨H, Q, mh, hH, hQ, hmh, rfl, rfl, eh, -, ho, l1, l2⟩
  · obtain ⟨n1, n2⟩ := neg_fault f0
    exact step_ro f w (fun h0 h c => by simp only [fX11_flatten, fX11_flatten_j42, hg, hh2, g_268_0 c.1, sv (st1 c.1), gridFault_c c.1 hG, c.pl hG, hneg, not_true_eq_false, (f2 h0 _ _ h c).1, n2, dnB_eval, c_isGrid, c_isKind, c_isSort, c_isPlain, r_isGrid, r_isKind, r_isSort, r_isPlain, r_in, dnP, Bool.false_eq_true, if_false, if_true]) (fun q0 k r => by simp only [fX13_flatDeed, fX13_flatDeed_j36, hg, hh2, g_289_4 r.1, plr_A r hG, hn2, v_289 r.1, (f3 hh2 q0 _ k r).1, n1, dnB_eval, c_isGrid, c_isKind, c_isSort, c_isPlain, r_isGrid, r_isKind, r_isSort, r_isPlain, r_in, dnP, Bool.false_eq_true, if_false, if_true])
  have NL := flN_le w hG hm e1
  have SL := flS_lt w hG hm e1
  -- the first pass
  have c1p : ∀ h0 h, CS h0 sp0 [] h A → dnIt 1000 (fX11_flatten_b59 (some 268) (nI G) (nI H) (nI Q)) (0, 0, 0) h = some ((nI (flN A G m), nI (flS A G m)), h) := fun h0 h c => by
    refine dnIt_run (f := fX11_flatten_b59 (some 268) (nI G) (nI H) (nI Q)) (q := (nI (flN A G m), nI (flS A G m))) (hq := h) m 1000 (fun p => ((nI (flN A G p), nI (flS A G p), nI p), h)) (by omega) ?_ ?_
    · intro p hp
      have hc : ¬ (nI m ≤ nI p) := fun hc => by have := (nI_leI (a := m) (b := p) (by omega) (by omega)).mp hc; omega
      rcases gr_A w hG hm e1 hp with ⟨e, kc, kr⟩ | ⟨r, hr, e, -, hl, o, kc, kr⟩
      · rw [flN_n e, flS_n e]
        simp only [fX11_flatten_b59, fX11_flatten_j112, dnB_eval, g_268_0 c.1, sg_0 (st1 c.1), plc_A c hG, e1, hc, if_false, sv (st1 c.1), kc h0 _ _ h c, Option.elim, dnP, nI_1]
      · rw [flN_s e, flS_s e]
        simp only [fX11_flatten_b59, fX11_flatten_j112, dnB_eval, g_268_0 c.1, sg_0 (st1 c.1), plc_A c hG, e1, hc, if_false, sv (st1 c.1), kc h0 _ _ h c, Option.elim, rg_i (row1 c.1 hr), (c.row hr (hl _)).2.1, (c.row hr (hl _)).1, bit_nI o.1, nI_or, nI_add, dnP, nI_1]
    · simp only [fX11_flatten_b59, dnB_eval, g_268_0 c.1, sg_0 (st1 c.1), plc_A c hG, e1, Int32.le_refl, if_true, dnP]
  have r1p : ∀ q0 k, RS q0 [] k A → dnIt 1000 (fX13_flatDeed_b55 (some 289) (nI G) (nI H) (nI Q)) (0, 0, 0) k = some ((nI (flN A G m), nI (flS A G m)), k) := fun q0 k c => by
    refine dnIt_run (f := fX13_flatDeed_b55 (some 289) (nI G) (nI H) (nI Q)) (q := (nI (flN A G m), nI (flS A G m))) (hq := k) m 1000 (fun p => ((nI (flN A G p), nI (flS A G p), nI p), k)) (by omega) ?_ ?_
    · intro p hp
      have hc : ¬ (nI m ≤ nI p) := fun hc => by have := (nI_leI (a := m) (b := p) (by omega) (by omega)).mp hc; omega
      rcases gr_A w hG hm e1 hp with ⟨e, kc, kr⟩ | ⟨r, hr, e, -, hl, o, kc, kr⟩
      · rw [flN_n e, flS_n e]
        simp only [fX13_flatDeed_b55, fX13_flatDeed_j94, fX13_flatDeed_j127, dnB_eval, g_289_4 c.1, plr_A c hG, e1, hc, if_false, v_289 c.1, kr q0 _ k c, Bool.false_eq_true, dnP, nI_1, Int32.add_zero]
        show some (Sum.inl (_, nI (flS A G p) ||| nI 0, _), k) = _
        rw [nI_or, Nat.or_zero]
      · rw [flN_s e, flS_s e]
        simp only [fX13_flatDeed_b55, fX13_flatDeed_j94, fX13_flatDeed_j127, dnB_eval, g_289_4 c.1, plr_A c hG, e1, hc, if_false, v_289 c.1, (kr q0 _ k c).1, (kr q0 _ k c).2, if_true, g_289_7 c.1, g_289_6 c.1, len_A c hr (hl _), kind_A c hr (hl _), bit_nI o.1, nI_or, nI_add, dnP, nI_1]
    · simp only [fX13_flatDeed_b55, dnB_eval, g_289_4 c.1, plr_A c hG, e1, Int32.le_refl, if_true, dnP]
  have nm := NL m (Nat.le_refl _)
  have g12 : (nI (flN A G m) ≤ 12) ↔ flN A G m ≤ 12 := nI_leI (b := 12) (by omega) (by decide)
  by_cases hF : flN A G m ≤ 12
  case neg => exact step_ro (-10) w (fun h0 h c => by simp only [fX11_flatten, fX11_flatten_j42, hg, hh2, g_268_0 c.1, sv (st1 c.1), gridFault_c c.1 hG, c.pl hG, hneg, not_true_eq_false, (l1 h0 _ _ h c).1, z0, c1p h0 h c, g12, hF, dnB_eval, c_isGrid, c_isKind, c_isSort, c_isPlain, r_isGrid, r_isKind, r_isSort, r_isPlain, r_in, dnP, Bool.false_eq_true, if_false, if_true]) (fun q0 k r => by simp only [fX13_flatDeed, fX13_flatDeed_j36, hg, hh2, g_289_4 r.1, plr_A r hG, hn2, v_289 r.1, (l2 q0 _ k r).1, r1p q0 k r, g12, hF, dnB_eval, c_isGrid, c_isKind, c_isSort, c_isPlain, r_isGrid, r_isKind, r_isSort, r_isPlain, r_in, dnP, Bool.false_eq_true, if_false, if_true])
  have hset := SL m (Nat.le_refl _)
  have hK := lkd_lt (flS A G m)
  have lC := leastC hset
  have lR := leastR hset
  have htk : ∀ p, p < m → ∀ r, gr A (6 * G + p) = some r → ∀ i, i < 12 → tk (lkd (flS A G m)) ((A.2.2.1 r).2.2 i).1 = true := fun p hp r e i hi => by
    rcases gr_A w hG hm e1 hp with ⟨e2, -⟩ | ⟨r2, hr, e2, -, hl, o, -⟩
    · rw [e] at e2; cases e2
    · rw [e] at e2
      cases e2
      have hb := flS_bit e (m - (p + 1))
      rw [show p + 1 + (m - (p + 1)) = m by omega] at hb
      exact lkd_tk hb (o.2.2 i hi).1 (o.2.2 i hi).2.1 (o.2.2 i hi).2.2.1
  generalize lkd (flS A G m) = K at hK lC lR htk
  have okR := flR_ok (n := flN A G m) hB w hG hm e1 hK hF htk
  obtain ⟨x, hx⟩ := exFr (X := []) A (by decide)
  have hx1 := hx.1
  have hlx : live [x] A x := .inl (List.mem_singleton.mpr rfl)
  have wx : ∀ p, p ≤ m → Wf B [x] (setR A x (flR A G K (flN A G m) p)) := fun p hp => w.setR consY (okR p hp)
  refine ⟨nI (flN A G m), setH (setR A x (flR A G K (flN A G m) m)) (6 * H + Q) (nI x), wf_new w hx1 (okR m (Nat.le_refl _)) hH hmh hQ eh, fun h0 h c => ?_, fun q0 k r' => ?_⟩
  · obtain ⟨h1, a1, c1⟩ := freshRow_A (kd := K) (ln := flN A G m) c spX_0 hx hK
    have KK := it_inv (f := fX11_flatten_b150 (some 268) (nI G) (nI H) (nI Q) (nI (flN A G m)) (some (5 + 4 * x))) (Q := fun _ k => CS h0 sp0 [x] k (setR A x (flR A G K (flN A G m) m))) (fun p s k => s = (nI (flN A G p), nI p) ∧ CS h0 sp0 [x] k (setR A x (flR A G K (flN A G m) p))) m 1000 0 (by omega) (by omega) ?_ ?_ (nI (flN A G 0), nI 0) h1 ⟨rfl, c1⟩
    · obtain ⟨_, h2, b1, c2⟩ := KK
      have b1 : dnIt 1000 (fX11_flatten_b150 (some 268) (nI G) (nI H) (nI Q) (nI (flN A G m)) (some (5 + 4 * x))) (0, 0) h1 = some (_, h2) := b1
      obtain ⟨d1, c3⟩ := place_A (q := Q) c2 hH (by omega) hx1 hlx
      refine ⟨_, ?_, c3.sub subN⟩
      simp only [fX11_flatten, fX11_flatten_j42, hg, hh2, g_268_0 c.1, sv (st1 c.1), gridFault_c c.1 hG, c.pl hG, hneg, not_true_eq_false, (l1 h0 _ _ h c).1, z0, c1p h0 h c, g12, hF, lC, a1, b1, g_268_0 c2.1, sv (st1 c2.1), d1, dnB_eval, c_isGrid, c_isKind, c_isSort, c_isPlain, r_isGrid, r_isKind, r_isSort, r_isPlain, r_in, dnP, Bool.false_eq_true, if_false, if_true]
    · rintro p s k hp ⟨rfl, ck⟩
      left
      have hc : ¬ (nI m ≤ nI p) := fun hc => by have := (nI_leI (a := m) (b := p) (by omega) (by omega)).mp hc; omega
      have pl : dnAI (some (1 + 1)) 100 (nI G) k = some (nI m, k) := by rw [plc_A ck hG]; exact congrArg (fun z => some (z, k)) e1
      rcases gr_A (wx p (by omega)) hG hm e1 hp with ⟨e, kc, kr⟩ | ⟨r, hr, e, e3, hl, o, kc, kr⟩
      · have e : gr A (6 * G + p) = none := e
        refine ⟨_, k, ?_, rfl, by rw [flR_n e]; exact ck⟩
        rw [flN_n e]
        simp only [fX11_flatten_b150, fX11_flatten_j206, dnB_eval, g_268_0 ck.1, sg_0 (st1 ck.1), pl, hc, if_false, sv (st1 ck.1), kc h0 _ _ k ck, Option.elim, dnP, nI_1]
      · have e : gr A (6 * G + p) = some r := e
        have hrx : r ≠ x := fun ee => hx.2.1 (ee ▸ (hl []))
        have rr := ck.row hr (hl [x])
        rw [setR_ne hrx] at rr o
        have rx := ck.row hx1 hlx
        rw [setR_at] at rx
        have o12 := o.2.1
        have fs := flN_s e
        have fm := flN_mono (A := A) (G := G) (p := p + 1) (m - (p + 1))
        rw [show p + 1 + (m - (p + 1)) = m by omega] at fm
        obtain ⟨h2, b1, b2, b3⟩ := append_H (B := B) (a := flN A G p) (i := 0) (n := (A.2.2.1 r).2.1) (row1 ck.1 hx1) (row1 ck.1 hr) rx rr (by omega) (okR p (by omega)) (by omega) (by omega) (fun j hj => by
          rw [Nat.zero_add, (flR_kd p).1]
          exact ⟨(o.2.2 j (by omega)).1, htk p hp r e j (by omega), (o.2.2 j (by omega)).2.2.2⟩)
        rw [nI_0] at b1
        have c2 := ck.setRow (Y := [x]) hx1 (fun m hm => .inr hm) b2 b3
        have ef : (fun k => cvt (flR A G K (flN A G m) p).1 ((A.2.2.1 r).2.2 (0 + k))) = (fun k => cvt K ((A.2.2.1 r).2.2 k)) := by
          funext k
          rw [(flR_kd p).1, Nat.zero_add]
        rw [setR_setR, ef, ← flR_s e] at c2
        have rr2 := c2.row hr (hl [x])
        rw [setR_ne hrx] at rr2
        refine ⟨_, h2, ?_, rfl, c2⟩
        rw [fs]
        simp only [fX11_flatten_b150, fX11_flatten_j206, dnB_eval, g_268_0 ck.1, sg_0 (st1 ck.1), pl, hc, if_false, sv (st1 ck.1), kc h0 _ _ k ck, Option.elim, rg_i (row1 ck.1 hr), rr.2.1, b1, rg_i (row1 c2.1 hr), rr2.2.1, nI_add, dnP, nI_1]
    · rintro s k ⟨rfl, ck⟩
      have pl : dnAI (some (1 + 1)) 100 (nI G) k = some (nI m, k) := by rw [plc_A ck hG]; exact congrArg (fun z => some (z, k)) e1
      exact ⟨(), k, by simp only [fX11_flatten_b150, dnB_eval, g_268_0 ck.1, sg_0 (st1 ck.1), pl, Int32.le_refl, if_true, dnP], ck⟩
  · obtain ⟨k3, a1, r1⟩ := newRow_A (kd := K) (ln := flN A G m) r' w.2.1 hx hK
    have KK := it_inv (f := fX13_flatDeed_b165 (some 289) (nI G) (nI H) (nI Q) (nI (flN A G m)) (nI x)) (Q := fun _ k => RS q0 [x] k (setR A x (flR A G K (flN A G m) m))) (fun p s k => s = (nI (flN A G p), nI p) ∧ RS q0 [x] k (setR A x (flR A G K (flN A G m) p))) m 1000 0 (by omega) (by omega) ?_ ?_ (nI (flN A G 0), nI 0) k3 ⟨rfl, r1⟩
    · obtain ⟨_, k4, b1, r2⟩ := KK
      have b1 : dnIt 1000 (fX13_flatDeed_b165 (some 289) (nI G) (nI H) (nI Q) (nI (flN A G m)) (nI x)) (0, 0) k3 = some (_, k4) := b1
      obtain ⟨d1, r3⟩ := holdsNow_A (v := nI x) (p := Q) r2 hH (by omega) (fun n hn e => by
        rw [← (nI_eq (by omega) (by omega)).mp e]
        exact hlx)
      rw [rc_nI hx1] at d1 r3
      refine ⟨_, _, ?_, r3⟩
      simp only [fX13_flatDeed, fX13_flatDeed_j36, hg, hh2, g_289_4 r'.1, plr_A r' hG, hn2, v_289 r'.1, (l2 q0 _ k r').1, r1p q0 k r', g12, hF, lR, a1, b1, v_289 r2.1, d1, dnB_eval, c_isGrid, c_isKind, c_isSort, c_isPlain, r_isGrid, r_isKind, r_isSort, r_isPlain, r_in, dnP, Bool.false_eq_true, if_false, if_true]
    · rintro p s k hp ⟨rfl, rk⟩
      left
      have hc : ¬ (nI m ≤ nI p) := fun hc => by have := (nI_leI (a := m) (b := p) (by omega) (by omega)).mp hc; omega
      have pl : dnAI (some 291) 100 (nI G) k = some (nI m, k) := by rw [plr_A rk hG]; exact congrArg (fun z => some (z, k)) e1
      rcases gr_A (wx p (by omega)) hG hm e1 hp with ⟨e, kc, kr⟩ | ⟨r, hr, e, e3, hl, o, kc, kr⟩
      · have e : gr A (6 * G + p) = none := e
        have it : dnIt 1000 (fX13_flatDeed_b179 (some 289) (nI G) (nI H) (nI Q) (nI (flN A G m)) (nI x) (nI p)) (nI (flN A G p), 0) k = some (nI (flN A G p), k) := by
          have := dnIt_run (f := fX13_flatDeed_b179 (some 289) (nI G) (nI H) (nI Q) (nI (flN A G m)) (nI x) (nI p)) (q := nI (flN A G p)) (hq := k) 0 1000 (fun _ => ((nI (flN A G p), (0 : Int32)), k)) (by decide) (fun i hi => by omega) (by simp only [fX13_flatDeed_b179, dnB_eval, v_289 rk.1, kr q0 _ k rk, Bool.false_eq_true, if_false, dnP])
          exact this
        refine ⟨_, k, ?_, rfl, by rw [flR_n e]; exact rk⟩
        rw [flN_n e]
        simp only [fX13_flatDeed_b165, fX13_flatDeed_j232, dnB_eval, g_289_4 rk.1, pl, hc, if_false, it, dnP, nI_1]
      · have e : gr A (6 * G + p) = some r := e
        have hrx : r ≠ x := fun ee => hx.2.1 (ee ▸ (hl []))
        rw [setR_ne hrx] at o
        have o12 := o.2.1
        have fs := flN_s e
        have fm := flN_mono (A := A) (G := G) (p := p + 1) (m - (p + 1))
        rw [show p + 1 + (m - (p + 1)) = m by omega] at fm
        have kK := (flR_kd (A := A) (G := G) (K := K) (n := flN A G m) p).1
        have wj : ∀ j, j ≤ (A.2.2.1 r).2.1 → Wf B [x] (setR A x (fillR (flR A G K (flN A G m) p) (flN A G p) j (fun k => cvt K ((A.2.2.1 r).2.2 k)))) := fun j hj => w.setR consY (rwOk_fill (okR p (by omega)) (fun i hi => by
          rw [kK]
          exact celOk_cvt hB hK (o.2.2 i (by omega)).1 (htk p hp r e i (by omega)) (o.2.2 i (by omega)).2.2.2))
        have facts : ∀ j k, j ≤ (A.2.2.1 r).2.1 → RS q0 [x] k (setR A x (fillR (flR A G K (flN A G m) p) (flN A G p) j (fun k => cvt K ((A.2.2.1 r).2.2 k)))) → fX13_isRow (some 289) (nI G) (nI p) k = some (true, k) ∧ fX13_held (some 289) (nI G) (nI p) k = some (nI r, k) := fun j k hj rk => by
          rcases gr_A (wj j hj) hG hm e1 hp with ⟨e9, -⟩ | ⟨r9, hr9, e9, -, -, -, -, kr9⟩
          · have e9 : gr A (6 * G + p) = none := e9
            rw [e] at e9; cases e9
          · have e9 : gr A (6 * G + p) = some r9 := e9
            rw [e] at e9; cases e9
            exact kr9 q0 _ k rk
        have lx : ∀ j k, RS q0 [x] k (setR A x (fillR (flR A G K (flN A G m) p) (flN A G p) j (fun k => cvt K ((A.2.2.1 r).2.2 k)))) → dnAI (some 294) 100 (nI r) k = some (nI (A.2.2.1 r).2.1, k) := fun j k rk => by
          have := len_A rk hr (hl [x])
          rw [setR_ne hrx] at this
          exact this
        have K2 := it_inv (f := fX13_flatDeed_b179 (some 289) (nI G) (nI H) (nI Q) (nI (flN A G m)) (nI x) (nI p)) (Q := fun s k => s = nI (flN A G p + (A.2.2.1 r).2.1) ∧ RS q0 [x] k (setR A x (fillR (flR A G K (flN A G m) p) (flN A G p) (A.2.2.1 r).2.1 (fun k => cvt K ((A.2.2.1 r).2.2 k))))) (fun j s k => s = (nI (flN A G p + j), nI j) ∧ RS q0 [x] k (setR A x (fillR (flR A G K (flN A G m) p) (flN A G p) j (fun k => cvt K ((A.2.2.1 r).2.2 k))))) (A.2.2.1 r).2.1 1000 0 (by omega) (by omega) ?_ ?_ (nI (flN A G p), nI 0) k ⟨rfl, by rw [fillR_0]; exact rk⟩
        · obtain ⟨_, k5, b1, rfl, r5⟩ := K2
          have b1 : dnIt 1000 (fX13_flatDeed_b179 (some 289) (nI G) (nI H) (nI Q) (nI (flN A G m)) (nI x) (nI p)) (nI (flN A G p), 0) k = some (nI (flN A G p + (A.2.2.1 r).2.1), k5) := b1
          rw [← flR_s e] at r5
          refine ⟨_, k5, ?_, rfl, r5⟩
          rw [fs]
          simp only [fX13_flatDeed_b165, fX13_flatDeed_j232, dnB_eval, g_289_4 rk.1, pl, hc, if_false, b1, dnP, nI_1]
        · rintro j s k hj ⟨rfl, rj⟩
          left
          have hcj : ¬ (nI (A.2.2.1 r).2.1 ≤ nI j) := fun hc => by have := (nI_leI (a := (A.2.2.1 r).2.1) (b := j) (by omega) (by omega)).mp hc; omega
          obtain ⟨f1, f2⟩ := facts j k (by omega) rj
          obtain ⟨k6, b1, b2⟩ := copies_F (B := B) (i := j) rj hx1 hlx hr (hl [x]) hrx (by omega) (by omega) (by rw [kK]; exact hK) (o.2.2 j (by omega)) (by rw [kK]; exact htk p hp r e j (by omega)) (by rw [kK])
          refine ⟨_, k6, ?_, rfl, b2⟩
          simp only [fX13_flatDeed_b179, dnB_eval, v_289 rj.1, f1, f2, if_true, g_289_7 rj.1, lx j k rj, hcj, if_false, b1, dnP, nI_1]
          rfl
        · rintro s k ⟨rfl, rj⟩
          obtain ⟨f1, f2⟩ := facts _ k (Nat.le_refl _) rj
          exact ⟨_, k, by simp only [fX13_flatDeed_b179, dnB_eval, v_289 rj.1, f1, f2, if_true, g_289_7 rj.1, lx _ k rj, Int32.le_refl, dnP], rfl, rj⟩
    · rintro s k ⟨rfl, rk⟩
      have pl : dnAI (some 291) 100 (nI G) k = some (nI m, k) := by rw [plr_A rk hG]; exact congrArg (fun z => some (z, k)) e1
      exact ⟨(), k, by simp only [fX13_flatDeed_b165, dnB_eval, g_289_4 rk.1, pl, Int32.le_refl, if_true, dnP], rk⟩

theorem call_flat {B : Nat} (hB : 16 ≤ B) (g h q : Int32) : Call B B (fX12_flat (some 0) g h q) (fX13_flat (some 289) g h q) :=
  callA (Nat.le_refl _) (fun h v h1 s1 s2 e => by simp only [fX12_flat, dnB_eval, g_0_5 s1, v_268 s1, e, v_0 s2, tally_c s2, dnP]) (fun h v h1 s1 s2 e => by simp only [fX13_flat, dnB_eval, v_289 s1, e, v_289 s2, said_r s2, dnP]) (step_flat hB g h q)
