/-! ABS 26: a new grid row by row; turn -/
theorem newRow_E {h0 h : dnH} {X : List Nat} {A : Ab} {n kd ln : Nat} (c : RS h0 X h A) (ho : ∀ k, k < 24 → hOk (A.2.1 k)) (hf : isFr X A n) (hkd : kd < 12) : ∃ h2, fX13_newRow (some 289) (nI kd) (nI ln) h = some (nI n, h2) ∧ RS h0 (n :: X) h2 (setR A n (newR kd ln)) ∧ h2.2.1 302 = h.2.1 302 := by
  obtain ⟨hn, hnl, hlo⟩ := hf
  have hh := c.1
  have h8 : (8 ≤ nI kd) ↔ ¬ kd < 8 := (by decide +kernel : ∀ s, s < 12 → ((8 ≤ nI s) ↔ ¬ s < 8)) kd hkd
  have key : dnIt 1000 (fX13_newRow_b2 (some 289) (nI kd) (nI ln)) (nI 0) h = some (nI n, h) := by
    refine dnIt_run (f := fX13_newRow_b2 (some 289) (nI kd) (nI ln)) (q := nI n) (hq := h) n 1000 (fun i => (nI i, h)) (by omega) ?_ ?_
    · intro i hi
      have hc : ¬ ((31 : Int32) ≤ nI i) := fun hc => by have := (nI_leI (a := 31) (b := i) (by omega) (by omega)).mp hc; omega
      obtain ⟨b, e, hb⟩ := isHeld_A c ho (show i < 31 by omega)
      simp only [fX13_newRow_b2, hc, if_false, dnB_eval, v_289 hh, e, hb.mpr (hlo i hi), if_true, dnP, nI_1]
    · have hc : ¬ ((31 : Int32) ≤ nI n) := fun hc => by have := (nI_leI (a := 31) (b := n) (by omega) (by omega)).mp hc; omega
      obtain ⟨b, e, hb⟩ := isHeld_A c ho hn
      have hbf : b = false := by
        cases b
        · rfl
        · exact absurd (hb.mp rfl) hnl
      simp only [fX13_newRow_b2, hc, if_false, dnB_eval, v_289 hh, e, hbf, Bool.false_eq_true, if_false, dnP]
  rw [nI_0] at key
  have q0 : Sh (dnSI h 295 n 1) := hh
  have q1 : Sh (dnSI (dnSI h 295 n 1) 293 n (nI kd)) := hh
  have q2 : Sh (dnSI (dnSI (dnSI h 295 n 1) 293 n (nI kd)) 294 n (nI ln)) := hh
  have KK := it_inv (f := fX13_newRow_b46 (some 289) (nI kd) (nI n)) (Q := fun _ k => Eqc (fun x => x < 296 ∨ 299 ≤ x) (dnSI (dnSI (dnSI h 295 n 1) 293 n (nI kd)) 294 n (nI ln)) k ∧ (∀ x, (x < 12 * n ∨ 12 * n + 12 ≤ x) → k.2.1 296 x = h.2.1 296 x ∧ k.2.2.1 297 x = h.2.2.1 297 x ∧ k.2.2.2.1 298 x = h.2.2.2.1 298 x) ∧ ∀ j, j < 12 → k.2.1 296 (12 * n + j) = nI (newC kd).1 ∧ k.2.2.1 297 (12 * n + j) = 0 ∧ k.2.2.2.1 298 (12 * n + j) = FP.dconst0) (fun i s k => s = nI i ∧ Eqc (fun x => x < 296 ∨ 299 ≤ x) (dnSI (dnSI (dnSI h 295 n 1) 293 n (nI kd)) 294 n (nI ln)) k ∧ (∀ x, (x < 12 * n ∨ 12 * n + 12 ≤ x) → k.2.1 296 x = h.2.1 296 x ∧ k.2.2.1 297 x = h.2.2.1 297 x ∧ k.2.2.2.1 298 x = h.2.2.2.1 298 x) ∧ ∀ j, j < i → k.2.1 296 (12 * n + j) = nI (newC kd).1 ∧ k.2.2.1 297 (12 * n + j) = 0 ∧ k.2.2.2.1 298 (12 * n + j) = FP.dconst0) 12 1000 0 (by decide) (by decide) ?_ ?_ (nI 0) (dnSI (dnSI (dnSI h 295 n 1) 293 n (nI kd)) 294 n (nI ln)) ⟨rfl, Eqc.rf, fun x hx => ⟨?_, rfl, rfl⟩, fun j hj => by omega⟩
  · obtain ⟨_, h2, e, f1, f2, f3⟩ := KK
    rw [nI_0] at e
    have a1 := f1.2.2 293 (by decide)
    have a2 := f1.2.2 294 (by decide)
    have a3 := f1.2.2 295 (by decide)
    refine ⟨h2, ?_, ?_, (f1.2.2 302 (by decide)).1.trans (by show dnUp (dnUp (dnUp h.2.1 295 n 1) 293 n (nI kd)) 294 n (nI ln) 302 = h.2.1 302; rw [dnUp_row (by decide), dnUp_row (by decide), dnUp_row (by decide)])⟩
    · have i1 := dnIn_nI (show n < 32 by omega) (by decide)
      have i2 : (nI n).toNatClampNeg = n := nI_clamp (by omega)
      simp only [fX13_newRow, fX13_newRow_j22, dnB_eval, key, g_289_8 hh, t_295 hh, i1, i2, if_true, g_289_6 q0, t_293 q0, g_289_7 q1, t_294 q1, e, dnP]
    · refine c.setRow ?_ ?_ ?_ ?_ f2 ⟨?_, ?_, fun j hj => f3 j hj⟩
      · exact (((eqc_SI (by omega)).tr (eqc_SI (by omega))).tr (eqc_SI (by omega))).tr (f1.im (fun x hx => by omega))
      · intro r hr
        rw [a3.1]
        have e0 := c.2.2.1 r hr
        by_cases q : r = n
        · subst q
          simp [dnSI, dnUp]
        · simp [dnSI, dnUp, q, e0]
      · intro m hm
        rcases List.mem_cons.mp hm with hm | hm
        · exact .inl hm
        · exact .inr hm
      · intro m hm
        rw [a1.1, a2.1]
        simp [dnSI, dnUp, hm]
      · rw [a1.1]
        simp [dnSI, dnUp, newR]
      · rw [a2.1]
        simp [dnSI, dnUp, newR]
  · rintro i s k hi ⟨rfl, k1, k2, k3⟩
    left
    have hk : Sh k := k1.sh q2
    have hc : ¬ ((12 : Int32) ≤ nI i) := fun hc => by have := (nI_leI (a := 12) (b := i) (by omega) (by omega)).mp hc; omega
    have i1 := dnIn_nI (show 12 * n + i < 384 by omega) (by decide)
    have i2 : (nI (12 * n + i)).toNatClampNeg = 12 * n + i := nI_clamp (by omega)
    have j76 : ∀ v : Int32, fX13_newRow_j76 (some 289) (nI kd) (nI n) (nI i) (some 296) (nI (12 * n + i)) v k = some (.inl (nI (i + 1)), wrR k (12 * n + i) v 0 FP.dconst0) := fun v => by
      have r1 : Sh (dnSI k 296 (12 * n + i) v) := hk
      have r2 : Sh (dnSL (dnSI k 296 (12 * n + i) v) 297 (12 * n + i) 0) := hk
      simp only [fX13_newRow_j76, dnB_eval, t_296 hk, i1, i2, if_true, g_289_10 r1, at_r, t_297 r1, g_289_11 r2, t_298 r2, dnP, nI_1]
      rfl
    refine ⟨nI (i + 1), wrR k (12 * n + i) (nI (newC kd).1) 0 FP.dconst0, ?_, rfl, k1.tr (eqc_wrR (by decide) (by decide) (by decide)), fun x hx => ?_, fun j hj => ?_⟩
    · simp only [fX13_newRow_b46, hc, if_false, dnB_eval, g_289_9 hk, h8, at_r, j76]
      unfold newC
      by_cases q : kd < 8
      · rw [if_neg (not_not_intro q), if_pos q]
        exact j76 _
      · rw [if_pos q, if_neg q]
        exact j76 _
    · obtain ⟨b1, b2, b3⟩ := k2 x hx
      have q : ¬ x = 12 * n + i := by omega
      simp [wrR, dnSI, dnSL, dnSD, dnUp, q, b1, b2, b3]
    · by_cases q : j = i
      · subst q
        simp [wrR, dnSI, dnSL, dnSD, dnUp]
      · obtain ⟨b1, b2, b3⟩ := k3 j (by omega)
        simp [wrR, dnSI, dnSL, dnSD, dnUp, q, b1, b2, b3]
  · rintro s k ⟨rfl, k1, k2, k3⟩
    exact ⟨(), k, by simp only [fX13_newRow_b46, show (12 : Int32) ≤ nI 12 by decide, if_true, dnP], k1, k2, k3⟩
  · simp [dnSI, dnUp]
theorem copies_E {B : Nat} {h0 h : dnH} {X : List Nat} {A : Ab} (c : RS h0 X h A) {r i q j : Nat} (hr : r < 31) (hl : live X A r) (hi : i < 12) (hq : q < 31) (hlq : live X A q) (hj : j < 12) (hkd : (A.2.2.1 q).1 < 12) (w : celOk B (A.2.2.1 r).1 ((A.2.2.1 r).2.2 i)) :
    ∃ h2, fX13_copies (some 289) (nI r) (nI i) (nI q) (nI j) h = some ((), h2) ∧ RS h0 X h2 (if tk (A.2.2.1 q).1 ((A.2.2.1 r).2.2 i).1 = true then setR A q (setC (A.2.2.1 q) j (cvt (A.2.2.1 q).1 ((A.2.2.1 r).2.2 i))) else A) ∧ h2.2.1 302 = h.2.1 302 := by
  obtain ⟨h2, e, r2⟩ := copies_A c hr hl hi hq hlq hj hkd w
  refine ⟨h2, e, r2, ?_⟩
  obtain ⟨a1, a2, a3⟩ := (c.row hr hl).2.2 i hi
  have l := loads_r c.1 (show r < 32 by omega) hi
  rw [a1, a2, a3] at l
  have s1 : Sh (setV h (nI ((A.2.2.1 r).2.2 i).1) ((A.2.2.1 r).2.2 i).2.1 ((A.2.2.1 r).2.2 i).2.2) := c.1
  have v1 := hv_set (h := h) (c := (A.2.2.1 r).2.2 i)
  have kq : (setV h (nI ((A.2.2.1 r).2.2 i).1) ((A.2.2.1 r).2.2 i).2.1 ((A.2.2.1 r).2.2 i).2.2).2.1 293 q = nI (A.2.2.1 q).1 := by
    rw [((eqc_setV (P := fun x => x = 293) (by decide)).2.2 293 rfl).1]
    exact (c.row hq hlq).1
  have p := puts_r s1 (show q < 32 by omega) hj kq hkd v1.1 w.1 (fun _ _ => ok_l2f _)
  simp only [fX13_copies, dnB_eval, v_289 c.1, l, v_289 s1, p, dnP] at e
  have e := (Prod.mk.inj (Option.some.inj e)).2
  rw [← e]
  split
  · exact (((eqc_setV (P := fun x => x = 302) (by decide)).tr ((eqc_setV (P := fun x => x = 302) (by decide)).tr (eqc_wrR (P := fun x => x = 302) (by decide) (by decide) (by decide)))).2.2 302 rfl).1
  · exact ((eqc_setV (P := fun x => x = 302) (by decide)).2.2 302 rfl).1
abbrev Ts : Type := Ab × List Nat × (Nat → Int32)
def nxS (T : Ts) (j : Nat) (R : Rw) : Ts := (setR T.1 (frN T.2.1 T.1) R, frN T.2.1 T.1 :: T.2.1, upS T.2.2 j (nI (frN T.2.1 T.1)))
def GI (B : Nat) (A : Ab) (T : Ts) (j : Nat) : Prop := Wf B T.2.1 T.1 ∧ T.2.1.length ≤ j ∧ spX T.2.2 T.2.1 ∧ (∀ p, j ≤ p → T.2.2 p = -14) ∧ (∀ p, p < 6 → hOk (T.2.2 p)) ∧ T.1.1 = A.1 ∧ T.1.2.1 = A.2.1 ∧ ∀ r, live [] A r → T.1.2.2.1 r = A.2.2.1 r
theorem gi_0 {B : Nat} {A : Ab} (w : Wf B [] A) : GI B A (A, [], sp0) 0 := ⟨w, Nat.le_refl _, spX_0, fun _ _ => rfl, fun _ _ => .inl rfl, rfl, rfl, fun _ _ => rfl⟩
theorem gi_fr {B : Nat} {A : Ab} {T : Ts} {j : Nat} (g : GI B A T j) (hj : j ≤ 6) : isFr T.2.1 T.1 (frN T.2.1 T.1) := frN_is (Nat.le_trans g.2.1 hj)
theorem gi_liv {B : Nat} {A : Ab} {T : Ts} {j r : Nat} (g : GI B A T j) (h : live [] A r) : live T.2.1 T.1 r := by
  rcases h with h | ⟨k, hk, e⟩
  · cases h
  · exact .inr ⟨k, hk, by rw [g.2.2.2.2.2.2.1]; exact e⟩
theorem gi_next {B : Nat} {A : Ab} {T : Ts} {j : Nat} {R : Rw} (g : GI B A T j) (hj : j < 6) (hR : rwOk B R) : GI B A (nxS T j R) (j + 1) := by
  have hf := gi_fr g (by omega)
  obtain ⟨g1, g2, g3, g4, g5, g6, g7, g8⟩ := id g
  refine ⟨g1.setR consY hR, ?_, spX_up g3 hj (g4 j (Nat.le_refl _)) hf.1, fun p hp => ?_, fun p hp => ?_, g6, g7, fun r hr => ?_⟩
  · show T.2.1.length + 1 ≤ j + 1
    omega
  · show (if p = j then _ else T.2.2 p) = -14
    rw [if_neg (by omega)]
    exact g4 p (by omega)
  · show hOk (if p = j then nI (frN T.2.1 T.1) else T.2.2 p)
    split
    · exact .inr (.inr (.inr ⟨_, hf.1, rfl⟩))
    · exact g5 p hp
  · have hne : r ≠ frN T.2.1 T.1 := fun e => hf.2.1 (e ▸ gi_liv g hr)
    show (setR T.1 (frN T.2.1 T.1) R).2.2.1 r = _
    rw [setR_ne hne]
    exact g8 r hr
/-- a place of the new grid that stays without a row -/
theorem gi_skip {B : Nat} {A : Ab} {T : Ts} {j : Nat} (g : GI B A T j) : GI B A T (j + 1) := by
  obtain ⟨g1, g2, g3, g4, g5, g6, g7, g8⟩ := g
  exact ⟨g1, by omega, g3, fun p hp => g4 p (by omega), g5, g6, g7, g8⟩
theorem gi_gv {B : Nat} {A : Ab} {T : Ts} {j k : Nat} (g : GI B A T j) (hk : k < 24) (w : Wf B [] A) : gv T.1 k = gv A k := by
  have e : gr T.1 k = gr A k := by
    unfold gr
    rw [g.2.2.2.2.2.2.1]
  unfold gv
  rw [e]
  cases q : gr A k with
  | none => rfl
  | some r =>
    have : live [] A r := by
      unfold gr at q
      split at q
      · cases q
      · rename_i hn
        cases q
        rcases w.2.1 k hk with e | e | e | ⟨n, hn2, e⟩
        · rw [e] at hn; exact absurd (by decide) hn
        · rw [e] at hn; exact absurd (by decide) hn
        · rw [e] at hn; exact absurd (by decide) hn
        · exact .inr ⟨k, hk, by rw [e, nI_clamp (by omega)]⟩
    show some (T.1.2.2.1 r) = some (A.2.2.1 r)
    rw [g.2.2.2.2.2.2.2 r this]
/-- what the finished grid makes of the state -/
theorem gi_wf {B : Nat} {A : Ab} {T : Ts} {g n : Nat} (gi : GI B A T n) (hn : n ≤ 6) : Wf B [] (gridOf T.1 g (nI n) T.2.2) := by
  obtain ⟨g1, g2, g3, g4, g5, g6, g7, g8⟩ := gi
  refine (g1.grid (.inr ⟨n, hn, rfl⟩) (fun p hp k hk e => .inl ((g3 k hk).mpr ⟨p, hp, e⟩)) g5 (fun p hp hle => g4 p ?_)).sub subN
  exact (nI_leI (by omega) (by omega)).mp hle
theorem gi_cls {B : Nat} {A : Ab} {T : Ts} {g n : Nat} {h0 h : dnH} (gi : GI B A T n) (hg : g < 4) (c : CS h0 T.2.2 T.2.1 h T.1) (hv : h.2.1 2 4 = nI n) : ∃ h2, fX9_finishGrid (some 1) (nI g) h = some (nI n, h2) ∧ CS h0 sp0 [] h2 (gridOf T.1 g (nI n) T.2.2) := by
  obtain ⟨h2, e, c2⟩ := finishGrid_A c hg hv (fun p hp k hk e => .inl ((gi.2.2.1 k hk).mpr ⟨p, hp, e⟩))
  exact ⟨h2, e, c2.sub subN⟩
theorem gi_ref {B : Nat} {A : Ab} {T : Ts} {g n : Nat} {h0 h : dnH} (gi : GI B A T n) (hg : g < 4) (hn : n ≤ 6) (c : RS h0 T.2.1 h T.1) (hT : ∀ p, p < n → h.2.1 302 p = rc (T.2.2 p)) : ∃ h2, fX13_comes (some 289) (nI g) (nI n) h = some (nI n, h2) ∧ RS h0 T.2.1 h2 (gridOf T.1 g (nI n) T.2.2) :=
  comes_A c hg hn hT (fun p _ hp2 => gi.2.2.2.1 p hp2) (fun p hp k hk e => (gi.2.2.1 k hk).mpr ⟨p, hp, e⟩)
def lw (ρ : Nat → Option Rw) : Nat → Nat
  | 0 => 0
  | p + 1 => max (lw ρ p) (match ρ p with | none => 0 | some R => R.2.1)
theorem lw_n {ρ : Nat → Option Rw} {p : Nat} (e : ρ p = none) : lw ρ (p + 1) = lw ρ p := by
  show max (lw ρ p) (match ρ p with | none => 0 | some R => R.2.1) = _
  rw [e]
  exact Nat.max_eq_left (Nat.zero_le _)
theorem lw_s {ρ : Nat → Option Rw} {p : Nat} {R : Rw} (e : ρ p = some R) : lw ρ (p + 1) = max (lw ρ p) R.2.1 := by
  show max (lw ρ p) (match ρ p with | none => 0 | some R => R.2.1) = _
  rw [e]
theorem max_I {a b : Nat} (ha : a < 2 ^ 31) (hb : b < 2 ^ 31) : fJ9_max_7cf53 (nI a) (nI b) = dnP (nI (max a b)) := by
  unfold fJ9_max_7cf53
  by_cases q : a < b
  · rw [if_pos ((nI_ltI ha hb).mpr q), Nat.max_eq_right (by omega)]
  · rw [if_neg (fun hc => q ((nI_ltI ha hb).mp hc)), Nat.max_eq_left (by omega)]
theorem lw_le {B : Nat} {X : List Nat} {A : Ab} (w : Wf B X A) {G m : Nat} (hG : G < 4) (hm : m ≤ 6) (e1 : A.1 G = nI m) : ∀ p, p ≤ m → lw (fun p => gv A (6 * G + p)) p ≤ 12 := by
  intro p
  induction p with
  | zero => exact fun _ => (by decide : 0 ≤ 12)
  | succ p ih =>
    intro hp
    have := ih (by omega)
    rcases gv_A w hG hm e1 (show p < m by omega) with ⟨e, -⟩ | ⟨r, hr, e, -, -, o, -⟩
    · rw [lw_n (ρ := fun p => gv A (6 * G + p)) e]; exact this
    · rw [lw_s (ρ := fun p => gv A (6 * G + p)) e]
      have := o.2.1
      omega
theorem longest_c {B : Nat} {X : List Nat} {A : Ab} (w : Wf B X A) {G m : Nat} (hG : G < 4) (hm : m ≤ 6) (e1 : A.1 G = nI m) {h0 h : dnH} {S : Nat → Int32} {Y : List Nat} (c : CS h0 S Y h A) : fX9_longestRow (some 1) (nI G) h = some (nI (lw (fun p => gv A (6 * G + p)) m), h) := by
  have LL := lw_le w hG hm e1
  have key : dnIt 1000 (fX9_longestRow_b4 (some 1) (nI G)) (0, 0) h = some (nI (lw (fun p => gv A (6 * G + p)) m), h) := by
    refine dnIt_run (f := fX9_longestRow_b4 (some 1) (nI G)) (q := nI (lw (fun p => gv A (6 * G + p)) m)) (hq := h) m 1000 (fun p => ((nI (lw (fun p => gv A (6 * G + p)) p), nI p), h)) (by omega) ?_ ?_
    · intro p hp
      have hc : ¬ (nI m ≤ nI p) := fun hc => by have := (nI_leI (a := m) (b := p) (by omega) (by omega)).mp hc; omega
      have l1 := LL p (by omega)
      rcases gv_A w hG hm e1 hp with ⟨e, kc, kr⟩ | ⟨r, hr, e, -, hl, o, kc, kr⟩
      · have mx := max_I (a := lw (fun p => gv A (6 * G + p)) p) (b := 0) (by omega) (by decide)
        rw [nI_0, Nat.max_eq_left (Nat.zero_le _)] at mx
        rw [lw_n (ρ := fun p => gv A (6 * G + p)) e]
        simp only [fX9_longestRow_b4, fX9_cellsAt, dnB_eval, sg_0 (st1 c.1), plc_A c hG, e1, hc, if_false, sv (st1 c.1), kc h0 _ _ h c, Option.elim, mx, dnP, nI_1]
      · have o12 := o.2.1
        have mx := max_I (a := lw (fun p => gv A (6 * G + p)) p) (b := (A.2.2.1 r).2.1) (by omega) (by omega)
        rw [lw_s (ρ := fun p => gv A (6 * G + p)) e]
        simp only [fX9_longestRow_b4, fX9_cellsAt, dnB_eval, sg_0 (st1 c.1), plc_A c hG, e1, hc, if_false, sv (st1 c.1), kc h0 _ _ h c, Option.elim, rg_i (row1 c.1 hr), (c.row hr (hl _)).2.1, mx, dnP, nI_1]
    · simp only [fX9_longestRow_b4, dnB_eval, sg_0 (st1 c.1), plc_A c hG, e1, Int32.le_refl, if_true, dnP]
  simp only [fX9_longestRow, dnB_eval, key, dnP]
theorem longest_r {B : Nat} {X : List Nat} {A : Ab} (w : Wf B X A) {G m : Nat} (hG : G < 4) (hm : m ≤ 6) (e1 : A.1 G = nI m) {h0 h : dnH} {Y : List Nat} (c : RS h0 Y h A) : fX13_longest (some 289) (nI G) h = some (nI (lw (fun p => gv A (6 * G + p)) m), h) := by
  have LL := lw_le w hG hm e1
  have pl : dnAI (some 291) 100 (nI G) h = some (nI m, h) := by rw [plr_A c hG, e1]
  have key : dnIt 1000 (fX13_longest_b4 (some 289) (nI G)) (0, 0) h = some (nI (lw (fun p => gv A (6 * G + p)) m), h) := by
    refine dnIt_run (f := fX13_longest_b4 (some 289) (nI G)) (q := nI (lw (fun p => gv A (6 * G + p)) m)) (hq := h) m 1000 (fun p => ((nI (lw (fun p => gv A (6 * G + p)) p), nI p), h)) (by omega) ?_ ?_
    · intro p hp
      have hc : ¬ (nI m ≤ nI p) := fun hc => by have := (nI_leI (a := m) (b := p) (by omega) (by omega)).mp hc; omega
      have l1 := LL p (by omega)
      rcases gv_A w hG hm e1 hp with ⟨e, kc, kr⟩ | ⟨r, hr, e, -, hl, o, kc, kr⟩
      · rw [lw_n (ρ := fun p => gv A (6 * G + p)) e]
        simp only [fX13_longest_b4, fX13_longest_j52, fX13_longest_j53, dnB_eval, g_289_4 c.1, pl, hc, if_false, v_289 c.1, kr h0 _ h c, Bool.false_eq_true, dnP, nI_1]
      · have o12 := o.2.1
        rw [lw_s (ρ := fun p => gv A (6 * G + p)) e]
        simp only [fX13_longest_b4, fX13_longest_j52, fX13_longest_j53, dnB_eval, g_289_4 c.1, pl, hc, if_false, v_289 c.1, (kr h0 _ h c).1, (kr h0 _ h c).2, if_true, g_289_7 c.1, len_A c hr (hl _), nI_leI (show (A.2.2.1 r).2.1 < 2 ^ 31 by omega) (show lw (fun p => gv A (6 * G + p)) p < 2 ^ 31 by omega)]
        by_cases q : (A.2.2.1 r).2.1 ≤ lw (fun p => gv A (6 * G + p)) p
        · simp only [q, if_true, dnP, Nat.max_eq_left q, nI_1]
        · simp only [q, if_false, dnB_eval, g_289_7 c.1, v_289 c.1, (kr h0 _ h c).2, len_A c hr (hl _), dnP, Nat.max_eq_right (show lw (fun p => gv A (6 * G + p)) p ≤ (A.2.2.1 r).2.1 by omega), nI_1]
    · simp only [fX13_longest_b4, dnB_eval, g_289_4 c.1, pl, Int32.le_refl, if_true, dnP]
  simp only [fX13_longest, dnB_eval, key, dnP]
def coN (ρ : Nat → Option Rw) (j : Nat) : Nat → Nat
  | 0 => 0
  | p + 1 => match ρ p with | none => coN ρ j p | some R => if j < R.2.1 then coN ρ j p + 1 else coN ρ j p
def coS (ρ : Nat → Option Rw) (j : Nat) : Nat → Nat
  | 0 => 0
  | p + 1 => match ρ p with | none => coS ρ j p | some R => if j < R.2.1 then coS ρ j p ||| 2 ^ R.1 else coS ρ j p
def coR (ρ : Nat → Option Rw) (j K n : Nat) : Nat → Rw
  | 0 => newR K n
  | p + 1 => match ρ p with | none => coR ρ j K n p | some R => if j < R.2.1 then setC (coR ρ j K n p) (coN ρ j p) (cvt K (R.2.2 j)) else coR ρ j K n p
theorem co_n {ρ : Nat → Option Rw} {j p K n : Nat} (h : ρ p = none ∨ ∃ R, ρ p = some R ∧ ¬ j < R.2.1) : coN ρ j (p + 1) = coN ρ j p ∧ coS ρ j (p + 1) = coS ρ j p ∧ coR ρ j K n (p + 1) = coR ρ j K n p := by
  refine ⟨?_, ?_, ?_⟩
  · show (match ρ p with | none => coN ρ j p | some R => if j < R.2.1 then coN ρ j p + 1 else coN ρ j p) = _
    rcases h with e | ⟨R, e, q⟩
    · rw [e]
    · rw [e]; exact if_neg q
  · show (match ρ p with | none => coS ρ j p | some R => if j < R.2.1 then coS ρ j p ||| 2 ^ R.1 else coS ρ j p) = _
    rcases h with e | ⟨R, e, q⟩
    · rw [e]
    · rw [e]; exact if_neg q
  · show (match ρ p with | none => coR ρ j K n p | some R => if j < R.2.1 then setC (coR ρ j K n p) (coN ρ j p) (cvt K (R.2.2 j)) else coR ρ j K n p) = _
    rcases h with e | ⟨R, e, q⟩
    · rw [e]
    · rw [e]; exact if_neg q
theorem co_s {ρ : Nat → Option Rw} {j p K n : Nat} {R : Rw} (e : ρ p = some R) (q : j < R.2.1) : coN ρ j (p + 1) = coN ρ j p + 1 ∧ coS ρ j (p + 1) = coS ρ j p ||| 2 ^ R.1 ∧ coR ρ j K n (p + 1) = setC (coR ρ j K n p) (coN ρ j p) (cvt K (R.2.2 j)) := by
  refine ⟨?_, ?_, ?_⟩
  · show (match ρ p with | none => coN ρ j p | some R => if j < R.2.1 then coN ρ j p + 1 else coN ρ j p) = _
    rw [e]; exact if_pos q
  · show (match ρ p with | none => coS ρ j p | some R => if j < R.2.1 then coS ρ j p ||| 2 ^ R.1 else coS ρ j p) = _
    rw [e]; exact if_pos q
  · show (match ρ p with | none => coR ρ j K n p | some R => if j < R.2.1 then setC (coR ρ j K n p) (coN ρ j p) (cvt K (R.2.2 j)) else coR ρ j K n p) = _
    rw [e]; exact if_pos q
theorem coN_le {ρ : Nat → Option Rw} {j : Nat} : ∀ p, coN ρ j p ≤ p := by
  intro p
  induction p with
  | zero => exact Nat.le_refl _
  | succ p ih =>
    cases e : ρ p with
    | none => rw [(co_n (K := 0) (n := 0) (.inl e)).1]; omega
    | some R =>
      by_cases q : j < R.2.1
      · rw [(co_s (K := 0) (n := 0) e q).1]; omega
      · rw [(co_n (K := 0) (n := 0) (.inr ⟨R, e, q⟩)).1]; omega
theorem coS_lt {ρ : Nat → Option Rw} {j m : Nat} (hρ : ∀ p, p < m → ∀ R, ρ p = some R → R.1 < 12) : ∀ p, p ≤ m → coS ρ j p < 4096 := by
  intro p
  induction p with
  | zero => exact fun _ => (by decide : 0 < 4096)
  | succ p ih =>
    intro hp
    have := ih (by omega)
    cases e : ρ p with
    | none => rw [(co_n (K := 0) (n := 0) (.inl e)).2.1]; exact this
    | some R =>
      by_cases q : j < R.2.1
      · rw [(co_s (K := 0) (n := 0) e q).2.1]; exact or_lt this (hρ p (by omega) R e)
      · rw [(co_n (K := 0) (n := 0) (.inr ⟨R, e, q⟩)).2.1]; exact this
theorem coS_bit {ρ : Nat → Option Rw} {j p : Nat} {R : Rw} (e : ρ p = some R) (q : j < R.2.1) : ∀ d, (coS ρ j (p + 1 + d)).testBit R.1 = true := by
  intro d
  induction d with
  | zero => rw [Nat.add_zero, (co_s (K := 0) (n := 0) e q).2.1, Nat.testBit_or, Nat.testBit_two_pow_self, Bool.or_true]
  | succ d ih =>
    show (coS ρ j (p + 1 + d + 1)).testBit _ = true
    cases e2 : ρ (p + 1 + d) with
    | none => rw [(co_n (K := 0) (n := 0) (.inl e2)).2.1]; exact ih
    | some R2 =>
      by_cases q2 : j < R2.2.1
      · rw [(co_s (K := 0) (n := 0) e2 q2).2.1, Nat.testBit_or, ih, Bool.true_or]
      · rw [(co_n (K := 0) (n := 0) (.inr ⟨R2, e2, q2⟩)).2.1]; exact ih
theorem coR_kd {ρ : Nat → Option Rw} {j K n : Nat} : ∀ p, (coR ρ j K n p).1 = K := by
  intro p
  induction p with
  | zero => rfl
  | succ p ih =>
    cases e : ρ p with
    | none => rw [(co_n (K := K) (n := n) (.inl e)).2.2]; exact ih
    | some R =>
      by_cases q : j < R.2.1
      · rw [(co_s (K := K) (n := n) e q).2.2]; exact ih
      · rw [(co_n (K := K) (n := n) (.inr ⟨R, e, q⟩)).2.2]; exact ih
theorem coR_ok {B : Nat} {ρ : Nat → Option Rw} {j m K n : Nat} (hB : 16 ≤ B) (hK : K < 12) (hn : n ≤ 12) (hρ : ∀ p, p < m → ∀ R, ρ p = some R → j < R.2.1 → (R.2.2 j).1 < 12 ∧ tk K (R.2.2 j).1 = true ∧ valOk B (R.2.2 j).1 (R.2.2 j).2.1 (R.2.2 j).2.2) : ∀ p, p ≤ m → rwOk B (coR ρ j K n p) := by
  intro p
  induction p with
  | zero => exact fun _ => rwOk_new hB hK hn
  | succ p ih =>
    intro hp
    have := ih (by omega)
    cases e : ρ p with
    | none => rw [(co_n (K := K) (n := n) (.inl e)).2.2]; exact this
    | some R =>
      by_cases q : j < R.2.1
      · obtain ⟨a1, a2, a3⟩ := hρ p (by omega) R e q
        rw [(co_s (K := K) (n := n) e q).2.2]
        exact rwOk_set this (by rw [coR_kd]; exact celOk_cvt hB hK a1 a2 a3)
      · rw [(co_n (K := K) (n := n) (.inr ⟨R, e, q⟩)).2.2]; exact this
def coF (ρ : Nat → Option Rw) (m j : Nat) : Rw := coR ρ j (lkd (coS ρ j m)) (coN ρ j m) m
