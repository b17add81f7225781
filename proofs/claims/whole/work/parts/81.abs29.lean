/-! ABS 29: times -/
def unr (a : Nat) (o : Option Rw) : Bool := match o with | none => false | some R => !(decide (R.2.1 = 0) || (decide (R.1 < 8) && tk a R.1))
def fuV (ρ : Nat → Option Rw) (m a : Nat) : Int32 := match (List.range m).find? (fun p => unr a (ρ p)) with | some k => nI k | none => -9
theorem fu_c {B : Nat} {X : List Nat} {A : Ab} (w : Wf B X A) {G m a : Nat} (hG : G < 4) (hm : m ≤ 6) (e1 : A.1 G = nI m) (ha : a < 8) {h0 h : dnH} {S : Nat → Int32} {Y : List Nat} (c : CS h0 S Y h A) : fX9_firstUnreadable (some 1) (nI G) (nI a) h = some (fuV (fun p => gv A (6 * G + p)) m a, h) := by
  have step : ∀ p, p < m → fX9_firstUnreadable_b2 (some 1) (nI G) (nI a) (nI p) h = if unr a (gv A (6 * G + p)) = true then some (.inr (.inr (nI p)), h) else some (.inl (nI (p + 1)), h) := fun p hp => by
    have hc : ¬ (nI m ≤ nI p) := fun hc => by have := (nI_leI (a := m) (b := p) (by omega) (by omega)).mp hc; omega
    rcases gv_A w hG hm e1 hp with ⟨e, kc, kr⟩ | ⟨r, hr, e, -, hl, o, kc, kr⟩
    · rw [e]
      simp only [fX9_firstUnreadable_b2, fX9_firstUnreadable_j36, dnB_eval, sg_0 (st1 c.1), plc_A c hG, e1, hc, if_false, sv (st1 c.1), kc h0 _ _ h c, Option.elim, dnP, nI_1]
      rfl
    · rw [e]
      have cra := cellsReadAs_c (row1 c.1 hr) (c.row hr (hl _)).2.1 o.2.1 (c.row hr (hl _)).1 o.1 ha
      simp only [fX9_firstUnreadable_b2, fX9_firstUnreadable_j36, dnB_eval, sg_0 (st1 c.1), plc_A c hG, e1, hc, if_false, sv (st1 c.1), kc h0 _ _ h c, Option.elim, rv (row1 c.1 hr), cra, dnP, nI_1]
      show _ = if (!(decide ((A.2.2.1 r).2.1 = 0) || (decide ((A.2.2.1 r).1 < 8) && tk a (A.2.2.1 r).1))) = true then _ else _
      generalize (decide ((A.2.2.1 r).2.1 = 0) || (decide ((A.2.2.1 r).1 < 8) && tk a (A.2.2.1 r).1)) = b
      cases b <;> rfl
  have fin : fX9_firstUnreadable_b2 (some 1) (nI G) (nI a) (nI m) h = some (.inr (.inl ()), h) := by
    simp only [fX9_firstUnreadable_b2, dnB_eval, sg_0 (st1 c.1), plc_A c hG, e1, Int32.le_refl, if_true, dnP]
  unfold fuV
  rcases first_of (fun p => unr a (gv A (6 * G + p))) m with hf | ⟨k, hk, h1, h2⟩
  · have e : (List.range m).find? (fun p => unr a (gv A (6 * G + p))) = none := by
      rw [List.find?_eq_none]
      intro x hx
      rw [hf x (List.mem_range.mp hx)]
      decide
    rw [e]
    have := dnIt_run (f := fX9_firstUnreadable_b2 (some 1) (nI G) (nI a)) (q := .inl ()) (hq := h) m 1000 (fun i => (nI i, h)) (by omega) (fun i hi => by rw [step i hi, hf i hi]; rfl) fin
    have this : dnIt 1000 (fX9_firstUnreadable_b2 (some 1) (nI G) (nI a)) 0 h = some (.inl (), h) := this
    simp only [fX9_firstUnreadable, dnB_eval, this, Sum.elim_inl, dnP]
  · have e : (List.range m).find? (fun p => unr a (gv A (6 * G + p))) = some k := by
      rw [List.find?_range_eq_some]
      exact ⟨h1, by simpa using hk, fun j hj => by rw [h2 j hj]; rfl⟩
    rw [e]
    have := dnIt_run (f := fX9_firstUnreadable_b2 (some 1) (nI G) (nI a)) (q := .inr (nI k)) (hq := h) k 1000 (fun i => (nI i, h)) (by omega) (fun i hi => by rw [step i (by omega), h2 i hi]; rfl) (by rw [step k hk, h1]; rfl)
    have this : dnIt 1000 (fX9_firstUnreadable_b2 (some 1) (nI G) (nI a)) 0 h = some (.inr (nI k), h) := this
    simp only [fX9_firstUnreadable, dnB_eval, this, Sum.elim_inr, dnP]
theorem fu_r {B : Nat} {X : List Nat} {A : Ab} (w : Wf B X A) {G m a : Nat} (hG : G < 4) (hm : m ≤ 6) (e1 : A.1 G = nI m) (ha : a < 8) {h0 h : dnH} {Y : List Nat} (c : RS h0 Y h A) : fX13_firstUnlike (some 289) (nI G) (nI a) h = some (fuV (fun p => gv A (6 * G + p)) m a, h) := by
  have pl : dnAI (some 291) 100 (nI G) h = some (nI m, h) := by rw [plr_A c hG, e1]
  have step : ∀ p, p < m → fX13_firstUnlike_b2 (some 289) (nI G) (nI a) (nI p) h = if unr a (gv A (6 * G + p)) = true then some (.inr (.inr (nI p)), h) else some (.inl (nI (p + 1)), h) := fun p hp => by
    have hc : ¬ (nI m ≤ nI p) := fun hc => by have := (nI_leI (a := m) (b := p) (by omega) (by omega)).mp hc; omega
    have hcl := hasCell_N (j := 0) w hG hm e1 hp (by decide) h0 Y h c
    rw [nI_0] at hcl
    rcases gv_A w hG hm e1 hp with ⟨e, kc, kr⟩ | ⟨r, hr, e, -, hl, o, kc, kr⟩
    · rw [e] at hcl ⊢
      simp only [fX13_firstUnlike_b2, fX13_firstUnlike_j38, dnB_eval, g_289_4 c.1, pl, hc, if_false, v_289 c.1, hcl, Bool.false_eq_true, dnP, nI_1]
      rfl
    · rw [e] at hcl ⊢
      simp only [fX13_firstUnlike_b2, fX13_firstUnlike_j38, dnB_eval, g_289_4 c.1, pl, hc, if_false, v_289 c.1, hcl, (kr h0 _ h c).2, isReadable_A c hr (hl _) o.1 (show a < 12 by omega), dnP, nI_1]
      show _ = if (!(decide ((A.2.2.1 r).2.1 = 0) || (decide ((A.2.2.1 r).1 < 8) && tk a (A.2.2.1 r).1))) = true then _ else _
      by_cases q : (A.2.2.1 r).2.1 = 0
      · have q2 : ¬ 0 < (A.2.2.1 r).2.1 := by omega
        simp only [q, q2, decide_true, decide_false, Bool.false_eq_true, if_false, Bool.true_or, Bool.not_true, Nat.lt_irrefl, dnP]
      · have q2 : 0 < (A.2.2.1 r).2.1 := by omega
        simp only [q, q2, decide_true, decide_false, if_true, Bool.false_or, dnB_eval, v_289 c.1, (kr h0 _ h c).2, isReadable_A c hr (hl _) o.1 (show a < 12 by omega)]
        generalize (decide ((A.2.2.1 r).1 < 8) && tk a (A.2.2.1 r).1) = b
        cases b <;> rfl
  have fin : fX13_firstUnlike_b2 (some 289) (nI G) (nI a) (nI m) h = some (.inr (.inl ()), h) := by
    simp only [fX13_firstUnlike_b2, dnB_eval, g_289_4 c.1, pl, Int32.le_refl, if_true, dnP]
  unfold fuV
  rcases first_of (fun p => unr a (gv A (6 * G + p))) m with hf | ⟨k, hk, h1, h2⟩
  · have e : (List.range m).find? (fun p => unr a (gv A (6 * G + p))) = none := by
      rw [List.find?_eq_none]
      intro x hx
      rw [hf x (List.mem_range.mp hx)]
      decide
    rw [e]
    have := dnIt_run (f := fX13_firstUnlike_b2 (some 289) (nI G) (nI a)) (q := .inl ()) (hq := h) m 1000 (fun i => (nI i, h)) (by omega) (fun i hi => by rw [step i hi, hf i hi]; rfl) fin
    have this : dnIt 1000 (fX13_firstUnlike_b2 (some 289) (nI G) (nI a)) 0 h = some (.inl (), h) := this
    simp only [fX13_firstUnlike, dnB_eval, this, Sum.elim_inl, dnP]
  · have e : (List.range m).find? (fun p => unr a (gv A (6 * G + p))) = some k := by
      rw [List.find?_range_eq_some]
      exact ⟨h1, by simpa using hk, fun j hj => by rw [h2 j hj]; rfl⟩
    rw [e]
    have := dnIt_run (f := fX13_firstUnlike_b2 (some 289) (nI G) (nI a)) (q := .inr (nI k)) (hq := h) k 1000 (fun i => (nI i, h)) (by omega) (fun i hi => by rw [step i (by omega), h2 i hi]; rfl) (by rw [step k hk, h1]; rfl)
    have this : dnIt 1000 (fX13_firstUnlike_b2 (some 289) (nI G) (nI a)) 0 h = some (.inr (nI k), h) := this
    simp only [fX13_firstUnlike, dnB_eval, this, Sum.elim_inr, dnP]
theorem fu_9 {ρ : Nat → Option Rw} {m a : Nat} (hm : m ≤ 6) : fuV ρ m a = -9 ∨ ∃ k, k < m ∧ fuV ρ m a = nI k := by
  unfold fuV
  cases q : (List.range m).find? (fun p => unr a (ρ p)) with
  | none => exact .inl rfl
  | some k => exact .inr ⟨k, List.mem_range.mp (List.mem_of_find?_eq_some q), rfl⟩
/-- the rows of the second grid, none beyond its places -/
def sg (A : Ab) (b m i : Nat) : Option Rw := if i < m then gv A (6 * b + i) else none
theorem sg_A {B : Nat} {X : List Nat} {A : Ab} (w : Wf B X A) {b m i : Nat} (hb : b < 4) (hm : m ≤ 6) (e1 : A.1 b = nI m) (hi : i < 12) :
    (sg A b m i = none ∧ (∀ h0 S Y h, CS h0 S Y h A → fX9_rowAt (some 1) (nI b) (nI i) h = some (none, h)) ∧ ∀ q0 Y k, RS q0 Y k A → ∀ j : Nat, j < 2 ^ 31 → fX13_hasCell (some 289) (nI b) (nI i) (nI j) k = some (false, k)) ∨
    (∃ r, r < 31 ∧ sg A b m i = some (A.2.2.1 r) ∧ (∀ Y, live Y A r) ∧ rwOk B (A.2.2.1 r) ∧ i < m ∧ (∀ h0 S Y h, CS h0 S Y h A → fX9_rowAt (some 1) (nI b) (nI i) h = some (some (5 + 4 * r), h)) ∧ ∀ q0 Y k, RS q0 Y k A → fX13_held (some 289) (nI b) (nI i) k = some (nI r, k) ∧ ∀ j : Nat, j < 2 ^ 31 → fX13_hasCell (some 289) (nI b) (nI i) (nI j) k = some (decide (j < (A.2.2.1 r).2.1), k)) := by
  unfold sg
  by_cases q : i < m
  · rw [if_pos q]
    rcases gv_A w hb hm e1 q with ⟨e, kc, kr⟩ | ⟨r, hr, e, -, hl, o, kc, kr⟩
    · refine .inl ⟨e, kc, fun q0 Y k rs j hj => ?_⟩
      rw [hasCell_N w hb hm e1 q hj q0 Y k rs, e]
    · refine .inr ⟨r, hr, e, hl, o, q, kc, fun q0 Y k rs => ⟨(kr q0 Y k rs).2, fun j hj => ?_⟩⟩
      rw [hasCell_N w hb hm e1 q hj q0 Y k rs, e]
  · rw [if_neg q]
    have hpf : pf (A.1 b) (nI i) ≠ 0 := by
      rw [e1]
      unfold pf
      rw [if_neg (nI_pos (by omega)), if_neg (fun hc => q ((nI_ltI (by omega) (by omega)).mp hc.2))]
      decide
    refine .inl ⟨rfl, fun h0 S Y h c => rowAt_out c.1 hb (by rw [c.pl hb]; exact hpf), fun q0 Y k rs j hj => ?_⟩
    have pl : dnAI (some 291) 100 (nI b) k = some (nI m, k) := by rw [plr_A rs hb, e1]
    have hin : inB (nI i) 0 (nI m - 1) = false := by
      rw [inB_len (by omega), nI_toInt (by omega)]
      exact decide_eq_false (by omega)
    simp only [fX13_hasCell, dnB_eval, g_289_4 rs.1, pl, r_in, hin, dnP, Bool.false_eq_true, if_false]
def pr (Q : Rw) (σ : Nat → Option Rw) (j : Nat) : Nat → Int64
  | 0 => 0
  | i + 1 => pr Q σ j i + (match σ i with | none => 0 | some F => if j < F.2.1 then (Q.2.2 i).2.1 * (F.2.2 j).2.1 else 0)
theorem pr_n {Q : Rw} {σ : Nat → Option Rw} {j i : Nat} (h : σ i = none ∨ ∃ F, σ i = some F ∧ ¬ j < F.2.1) : pr Q σ j (i + 1) = pr Q σ j i := by
  show pr Q σ j i + (match σ i with | none => 0 | some F => if j < F.2.1 then (Q.2.2 i).2.1 * (F.2.2 j).2.1 else 0) = _
  rcases h with e | ⟨F, e, q⟩
  · rw [e]
    exact Int64.add_zero _
  · rw [e]
    show pr Q σ j i + (if j < F.2.1 then _ else 0) = _
    rw [if_neg q]
    exact Int64.add_zero _
theorem pr_s {Q F : Rw} {σ : Nat → Option Rw} {j i : Nat} (e : σ i = some F) (q : j < F.2.1) : pr Q σ j (i + 1) = pr Q σ j i + (Q.2.2 i).2.1 * (F.2.2 j).2.1 := by
  show pr Q σ j i + (match σ i with | none => 0 | some F => if j < F.2.1 then (Q.2.2 i).2.1 * (F.2.2 j).2.1 else 0) = _
  rw [e]
  show pr Q σ j i + (if j < F.2.1 then _ else 0) = _
  rw [if_pos q]
theorem pr_out {Q : Rw} {σ : Nat → Option Rw} {W j : Nat} (hσ : ∀ i F, σ i = some F → F.2.1 ≤ W) (hj : W ≤ j) : ∀ i, pr Q σ j i = 0 := by
  intro i
  induction i with
  | zero => rfl
  | succ i ih =>
    cases e : σ i with
    | none => rw [pr_n (.inl e)]; exact ih
    | some F => rw [pr_n (.inr ⟨F, e, by have := hσ i F e; omega⟩)]; exact ih
def pmR (Q : Rw) (σ : Nat → Option Rw) (W i : Nat) : Rw := (5, W, fun c => (5, pr Q σ c i, FP.dconst0))
theorem pmR_0 {Q : Rw} {σ : Nat → Option Rw} {W : Nat} : pmR Q σ W 0 = newR 5 W := rfl
theorem celOk5 {B : Nat} {n : Int64} : celOk B 5 (5, n, FP.dconst0) := ⟨(by decide : 5 < 12), (by decide : tk 5 5 = true), fun _ => rfl, fun hc => absurd hc (by decide : ¬ (5 : Nat) ≤ 4), fun hc => absurd hc (by decide : ¬ (5 : Nat) = 0), fun _ => rfl, fun hc => absurd hc (by decide : ¬ isRlN 5 = true), fun hc => absurd hc (by decide : ¬ (5 : Nat) = 11), fun hc => absurd hc (by decide : ¬ (5 : Nat) = 6), fun hc => absurd hc (by decide : ¬ (5 : Nat) = 7)⟩
theorem lw_ge {ρ : Nat → Option Rw} {p : Nat} {R : Rw} (e : ρ p = some R) : ∀ d, R.2.1 ≤ lw ρ (p + 1 + d) := by
  intro d
  induction d with
  | zero =>
    rw [Nat.add_zero, lw_s e]
    exact Nat.le_max_right _ _
  | succ d ih => exact Nat.le_trans ih (Nat.le_max_left _ _)
/-- the class adds up the products of a row -/
theorem prods_c {B : Nat} {X : List Nat} {A : Ab} {S : Nat → Int32} (w : Wf B X A) {b m r x W : Nat} (hb : b < 4) (hm : m ≤ 6) (e1 : A.1 b = nI m) (hr : r < 31) (hl : live X A r) (hrw : rwOk B (A.2.2.1 r)) (hx : isFr X A x) (hW : W ≤ 12) (hσ : ∀ i F, sg A b m i = some F → F.2.1 ≤ W) {h0 h : dnH} (c : CS h0 S (x :: X) h (setR A x (newR 5 W))) : ∃ h2, fX11_addProducts (some 268) (some (5 + 4 * x)) (some (5 + 4 * r)) (nI b) h = some ((), h2) ∧ CS h0 S (x :: X) h2 (setR A x (pmR (A.2.2.1 r) (sg A b m) W (A.2.2.1 r).2.1)) ∧ h2.2.1 2 = h.2.1 2 := by
  have hx1 := hx.1
  have hrx : r ≠ x := fun e => hx.2.1 (e ▸ hl)
  have hlx : live (x :: X) A x := .inl (List.mem_cons.mpr (.inl rfl))
  have hlr : live (x :: X) A r := live_mono (fun m hm => List.mem_cons.mpr (.inr hm)) hl
  have N1 := hrw.2.1
  have ok : ∀ i, rwOk B (pmR (A.2.2.1 r) (sg A b m) W i) := fun i => ⟨(by decide : 5 < 12), hW, fun _ _ => celOk5⟩
  have KK := it_inv (f := fX11_addProducts_b3 (some 268) (some (5 + 4 * x)) (some (5 + 4 * r)) (nI b)) (Q := fun _ k => CS h0 S (x :: X) k (setR A x (pmR (A.2.2.1 r) (sg A b m) W (A.2.2.1 r).2.1)) ∧ k.2.1 2 = h.2.1 2) (fun i s k => s = nI i ∧ CS h0 S (x :: X) k (setR A x (pmR (A.2.2.1 r) (sg A b m) W i)) ∧ k.2.1 2 = h.2.1 2) (A.2.2.1 r).2.1 1000 0 (by omega) (by omega) ?_ ?_ (nI 0) h ⟨rfl, c, rfl⟩
  · obtain ⟨_, h2, b1, c2, f2⟩ := KK
    rw [nI_0] at b1
    exact ⟨h2, by simp only [fX11_addProducts, dnB_eval, b1, dnP], c2, f2⟩
  · rintro i s k hi ⟨rfl, ck, fk⟩
    left
    have hc : ¬ (nI (A.2.2.1 r).2.1 ≤ nI i) := fun hc => by have := (nI_leI (a := (A.2.2.1 r).2.1) (b := i) (by omega) (by omega)).mp hc; omega
    have rr := ck.row hr hlr
    rw [setR_ne hrx] at rr
    have wk : Wf B (x :: X) (setR A x (pmR (A.2.2.1 r) (sg A b m) W i)) := w.setR consY (ok i)
    rcases sg_A wk hb hm e1 (show i < 12 by omega) with ⟨e, kc, kr⟩ | ⟨f, hf, e, hlf, of, him, kc, kr⟩
    · have e : sg A b m i = none := by
        unfold sg gv at e ⊢
        split at e
        · rename_i q
          rw [if_pos q]
          rw [gr_setR] at e
          cases q2 : gr A (6 * b + i) with
          | none => rfl
          | some t => rw [q2] at e; cases e
        · rename_i q
          rw [if_neg q]
      have ep : pmR (A.2.2.1 r) (sg A b m) W (i + 1) = pmR (A.2.2.1 r) (sg A b m) W i := by
        unfold pmR
        have : (fun c => ((5 : Nat), pr (A.2.2.1 r) (sg A b m) c (i + 1), FP.dconst0)) = (fun c => ((5 : Nat), pr (A.2.2.1 r) (sg A b m) c i, FP.dconst0)) := by
          funext c
          rw [pr_n (.inl e)]
        rw [this]
      refine ⟨nI (i + 1), k, ?_, rfl, by rw [ep]; exact ck, fk⟩
      simp only [fX11_addProducts_b3, fX11_addProducts_j74, dnB_eval, rg_i (row1 ck.1 hr), rr.2.1, hc, if_false, g_268_0 ck.1, sv (st1 ck.1), kc h0 _ _ k ck, Option.elim, dnP, nI_1]
    · have hfx : f ≠ x := fun ee => hx.2.1 (ee ▸ (live_mono (by intro _ hm; cases hm) (hlf [])))
      rw [setR_ne hfx] at e of
      have e : sg A b m i = some (A.2.2.1 f) := by
        unfold sg at e ⊢
        rw [if_pos him] at e ⊢
        unfold gv at e ⊢
        rw [gr_setR] at e
        cases q2 : gr A (6 * b + i) with
        | none => rw [q2] at e; cases e
        | some t =>
          rw [q2] at e
          rcases gv_A w hb hm e1 him with ⟨e5, -⟩ | ⟨r5, hr5, e5, e6, hl5, -⟩
          · unfold gv at e5; rw [q2] at e5; cases e5
          · have q3 : gr A (6 * b + i) = some r5 := by
              unfold gr
              rw [e6, if_neg (nI_pos (by omega)), nI_clamp (by omega)]
            rw [q2] at q3
            cases q3
            have htx : t ≠ x := fun ee => hx.2.1 (ee ▸ hl5 X)
            have e : some ((setR A x (pmR (A.2.2.1 r) (sg A b m) W i)).2.2.1 t) = some (A.2.2.1 f) := e
            rw [setR_ne htx] at e
            exact e
      have fW := hσ i _ e
      let D : Nat → Rw := fun j => (5, W, fun c => (5, if c < j then pr (A.2.2.1 r) (sg A b m) c (i + 1) else pr (A.2.2.1 r) (sg A b m) c i, FP.dconst0))
      have D0 : D 0 = pmR (A.2.2.1 r) (sg A b m) W i := by
        show (5, W, fun c => ((5 : Nat), if c < 0 then _ else _, FP.dconst0)) = (5, W, _)
        have : (fun c => ((5 : Nat), if c < 0 then pr (A.2.2.1 r) (sg A b m) c (i + 1) else pr (A.2.2.1 r) (sg A b m) c i, FP.dconst0)) = (fun c => ((5 : Nat), pr (A.2.2.1 r) (sg A b m) c i, FP.dconst0)) := by
          funext c
          rw [if_neg (by omega)]
        rw [this]
      have Dn : D (A.2.2.1 f).2.1 = pmR (A.2.2.1 r) (sg A b m) W (i + 1) := by
        show (5, W, fun c => ((5 : Nat), if c < (A.2.2.1 f).2.1 then _ else _, FP.dconst0)) = (5, W, _)
        have : (fun c => ((5 : Nat), if c < (A.2.2.1 f).2.1 then pr (A.2.2.1 r) (sg A b m) c (i + 1) else pr (A.2.2.1 r) (sg A b m) c i, FP.dconst0)) = (fun c => ((5 : Nat), pr (A.2.2.1 r) (sg A b m) c (i + 1), FP.dconst0)) := by
          funext c
          split
          · rfl
          · rename_i q
            rw [pr_n (.inr ⟨_, e, q⟩)]
        rw [this]
      have Dc : ∀ j, (D j).2.2 j = (5, pr (A.2.2.1 r) (sg A b m) j i, FP.dconst0) := fun j => by
        show ((5 : Nat), (if j < j then _ else _), FP.dconst0) = _
        rw [if_neg (Nat.lt_irrefl j)]
      have Ds : ∀ j, D (j + 1) = setC (D j) j (5, pr (A.2.2.1 r) (sg A b m) j (i + 1), FP.dconst0) := fun j => by
        show (5, W, fun c => ((5 : Nat), if c < j + 1 then _ else _, FP.dconst0)) = (5, W, fun c => if c = j then _ else ((5 : Nat), if c < j then _ else _, FP.dconst0))
        have : (fun c => ((5 : Nat), if c < j + 1 then pr (A.2.2.1 r) (sg A b m) c (i + 1) else pr (A.2.2.1 r) (sg A b m) c i, FP.dconst0)) = (fun c => if c = j then ((5 : Nat), pr (A.2.2.1 r) (sg A b m) j (i + 1), FP.dconst0) else ((5 : Nat), if c < j then pr (A.2.2.1 r) (sg A b m) c (i + 1) else pr (A.2.2.1 r) (sg A b m) c i, FP.dconst0)) := by
          funext c
          by_cases q : c = j
          · rw [if_pos q, if_pos (by omega), q]
          · rw [if_neg q]
            by_cases q2 : c < j
            · rw [if_pos q2, if_pos (by omega)]
            · rw [if_neg q2, if_neg (by omega)]
        rw [this]
      have ckD : CS h0 S (x :: X) k (setR A x (D 0)) := by rw [D0]; exact ck
      have K2 := it_inv (f := fX11_addProducts_b32 (some 268) (some (5 + 4 * x)) (some (5 + 4 * r)) (nI b) (nI i) (some (5 + 4 * f))) (Q := fun _ k => CS h0 S (x :: X) k (setR A x (D (A.2.2.1 f).2.1)) ∧ k.2.1 2 = h.2.1 2) (fun j s k => s = nI j ∧ CS h0 S (x :: X) k (setR A x (D j)) ∧ k.2.1 2 = h.2.1 2) (A.2.2.1 f).2.1 1000 0 (by omega) (by omega) ?_ ?_ (nI 0) k ⟨rfl, ckD, fk⟩
      · obtain ⟨_, k2, b1, c2, f2⟩ := K2
        rw [nI_0] at b1
        rw [Dn] at c2
        refine ⟨nI (i + 1), k2, ?_, rfl, c2, f2⟩
        simp only [fX11_addProducts_b3, fX11_addProducts_j74, dnB_eval, rg_i (row1 ck.1 hr), rr.2.1, hc, if_false, g_268_0 ck.1, sv (st1 ck.1), kc h0 _ _ k ck, Option.elim, b1, dnP, nI_1]
      · rintro j s k hj ⟨rfl, cj, fj⟩
        left
        have hcj : ¬ (nI (A.2.2.1 f).2.1 ≤ nI j) := fun hc => by have := (nI_leI (a := (A.2.2.1 f).2.1) (b := j) (by omega) (by omega)).mp hc; omega
        have rf := cj.row hf (hlf _)
        rw [setR_ne hfx] at rf
        have rj := cj.row hr hlr
        rw [setR_ne hrx] at rj
        have rx := cj.row hx1 hlx
        rw [setR_at] at rx
        have n1 := (rx.2.2 j (by omega)).2.1
        rw [Dc j] at n1
        have n1 : k.2.2.1 (5 + 4 * x + 2) j = pr (A.2.2.1 r) (sg A b m) j i := n1
        have n2 := (rj.2.2 i (by omega)).2.1
        have n3 := (rf.2.2 j (by omega)).2.1
        obtain ⟨y1, y2⟩ := wl_A (v := pr (A.2.2.1 r) (sg A b m) j i + ((A.2.2.1 r).2.2 i).2.1 * ((A.2.2.1 f).2.2 j).2.1) rx (show j < 12 by omega)
        rw [Dc j, ← pr_s e hj] at y2
        have y2 : RwH (dnSL k (5 + 4 * x + 2) j (pr (A.2.2.1 r) (sg A b m) j (i + 1))) (5 + 4 * x) (setC (D j) j (5, pr (A.2.2.1 r) (sg A b m) j (i + 1), FP.dconst0)) := y2
        rw [← Ds j] at y2
        rw [← pr_s e hj] at y1
        have c5 := cj.setRow (Y := x :: X) hx1 (fun m hm => .inr hm) y1 y2
        rw [setR_setR] at c5
        refine ⟨nI (j + 1), _, ?_, rfl, c5, (y1.1.2.2 2 (by omega)).1.trans fj⟩
        simp only [fX11_addProducts_b32, dnB_eval, rg_i (row1 cj.1 hf), rf.2.1, hcj, if_false, rg_4 (row1 cj.1 hx1), ra_2 (row1 cj.1 hx1), rg_4 (row1 cj.1 hr), ra_2 (row1 cj.1 hr), rg_4 (row1 cj.1 hf), ra_2 (row1 cj.1 hf), dnIn_nI (show j < 12 by omega) (by decide), nI_clamp (show j < 2 ^ 31 by omega), dnIn_nI (show i < 12 by omega) (by decide), nI_clamp (show i < 2 ^ 31 by omega), if_true, n1, n2, n3, ← pr_s e hj, rt_2 (row1 cj.1 hx1), dnP, nI_1]
      · rintro s k ⟨rfl, cj, fj⟩
        have rf := cj.row hf (hlf _)
        rw [setR_ne hfx] at rf
        exact ⟨(), k, by simp only [fX11_addProducts_b32, dnB_eval, rg_i (row1 cj.1 hf), rf.2.1, Int32.le_refl, if_true, dnP], cj, fj⟩
  · rintro s k ⟨rfl, ck, fk⟩
    have rr := ck.row hr hlr
    rw [setR_ne hrx] at rr
    exact ⟨(), k, by simp only [fX11_addProducts_b3, dnB_eval, rg_i (row1 ck.1 hr), rr.2.1, Int32.le_refl, if_true, dnP], ck, fk⟩
/-- the reference's sum of products -/
theorem product_r {B : Nat} {X : List Nat} {A : Ab} (w : Wf B X A) {a p b m r j : Nat} (hb : b < 4) (hm : m ≤ 6) (e1 : A.1 b = nI m) (hr : r < 31) (hl : live X A r) (hrw : rwOk B (A.2.2.1 r)) (hj : j < 12) {h0 h : dnH} (c : RS h0 X h A) (hd : fX13_held (some 289) (nI a) (nI p) h = some (nI r, h)) : fX13_product (some 289) (nI a) (nI p) (nI b) (nI j) h = some (pr (A.2.2.1 r) (sg A b m) j (A.2.2.1 r).2.1, h) := by
  have N1 := hrw.2.1
  have key : dnIt 1000 (fX13_product_b14 (some 289) (nI b) (nI j) (nI r)) (0, 0) h = some (pr (A.2.2.1 r) (sg A b m) j (A.2.2.1 r).2.1, h) := by
    refine dnIt_run (f := fX13_product_b14 (some 289) (nI b) (nI j) (nI r)) (q := pr (A.2.2.1 r) (sg A b m) j (A.2.2.1 r).2.1) (hq := h) (A.2.2.1 r).2.1 1000 (fun i => ((pr (A.2.2.1 r) (sg A b m) j i, nI i), h)) (by omega) ?_ ?_
    · intro i hi
      have hc : ¬ (nI (A.2.2.1 r).2.1 ≤ nI i) := fun hc => by have := (nI_leI (a := (A.2.2.1 r).2.1) (b := i) (by omega) (by omega)).mp hc; omega
      rcases sg_A w hb hm e1 (show i < 12 by omega) with ⟨e, kc, kr⟩ | ⟨f, hf, e, hlf, of, him, kc, kr⟩
      · rw [pr_n (.inl e)]
        simp only [fX13_product_b14, fX13_product_j76, dnB_eval, g_289_7 c.1, len_A c hr hl, hc, if_false, v_289 c.1, kr h0 _ h c j (by omega), Bool.false_eq_true, dnP, nI_1, Int64.add_zero]
      · obtain ⟨k1, k2⟩ := kr h0 _ h c
        by_cases q : j < (A.2.2.1 f).2.1
        · rw [pr_s e q]
          simp only [fX13_product_b14, fX13_product_j76, dnB_eval, g_289_7 c.1, len_A c hr hl, hc, if_false, v_289 c.1, k2 j (by omega), q, decide_true, if_true, g_289_10 c.1, at_r, num_A c hr hl (show i < 12 by omega), k1, num_A c hf (hlf _) hj, dnP, nI_1]
        · rw [pr_n (.inr ⟨_, e, q⟩)]
          simp only [fX13_product_b14, fX13_product_j76, dnB_eval, g_289_7 c.1, len_A c hr hl, hc, if_false, v_289 c.1, k2 j (by omega), q, decide_false, Bool.false_eq_true, dnP, nI_1, Int64.add_zero]
    · simp only [fX13_product_b14, dnB_eval, g_289_7 c.1, len_A c hr hl, Int32.le_refl, if_true, dnP]
  simp only [fX13_product, dnB_eval, v_289 c.1, hd, key, dnP]
