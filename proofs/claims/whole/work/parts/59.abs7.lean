/-! ABS 7: what places hold, changed; thing, share, swap -/
theorem CS.mh {h0 h h2 : dnH} {S S2 : Nat → Int32} {X Y : List Nat} {A : Ab} {M2 H2 : Nat → Int32} (c : CS h0 S X h A) (e : Eqc (fun x => x ≠ 2 ∧ x ≠ 3) h h2) (hM : ∀ g, g < 4 → h2.2.1 2 g = M2 g) (hH : ∀ k, k < 24 → h2.2.1 3 k = H2 k) (hS : ∀ p, p < 6 → h2.2.1 3 (24 + p) = S2 p) (hl : ∀ n, n < 31 → live Y (M2, H2, A.2.2) n → live X A n) : CS h0 S2 Y h2 (M2, H2, A.2.2) := by
  obtain ⟨c1, c2, c3, c4, c5, c6⟩ := c
  refine ⟨e.sh c1, c2.tr (e.im (fun x hx => by unfold Pc at hx; omega)), fun r hr => ?_, hS, ⟨hM, hH, fun n hn hln => ?_⟩, ?_⟩
  · rw [(e.2.2 (5 + 4 * r) (by omega)).1]; exact c3 r hr
  · obtain ⟨a1, a2, a3⟩ := c5.2.2 n hn (hl n hn hln)
    refine ⟨?_, ?_, fun i hi => ⟨?_, ?_, ?_⟩⟩
    · show h2.2.1 (1 + 4 + 4 * n) 1 = _
      rw [(e.2.2 _ (by omega)).1]; exact a1
    · show h2.2.1 (1 + 4 + 4 * n) 2 = _
      rw [(e.2.2 _ (by omega)).1]; exact a2
    · show h2.2.1 (1 + 4 + 4 * n + 1) i = _
      rw [(e.2.2 _ (by omega)).1]; exact (a3 i hi).1
    · show h2.2.2.1 (1 + 4 + 4 * n + 2) i = _
      rw [(e.2.2 _ (by omega)).2.1]; exact (a3 i hi).2.1
    · show h2.2.2.2.1 (1 + 4 + 4 * n + 3) i = _
      rw [(e.2.2 _ (by omega)).2.2]; exact (a3 i hi).2.2
  · show h2.2.2.1 258 0 = A.2.2.2.1 ∧ h2.2.1 258 1 = A.2.2.2.2.1 ∧ h2.2.1 258 2 = A.2.2.2.2.2
    rw [(e.2.2 258 (by decide)).1, (e.2.2 258 (by decide)).2.1]; exact c6
theorem RS.mh {h0 h h2 : dnH} {X : List Nat} {A : Ab} {M2 H2 : Nat → Int32} (c : RS h0 X h A) (e : Eqc (fun x => x ≠ 291 ∧ x ≠ 292) h h2) (hM : ∀ g, g < 4 → h2.2.1 291 g = M2 g) (hH : ∀ k, k < 24 → h2.2.1 292 k = rc (H2 k)) (hl : ∀ n, n < 31 → live X (M2, H2, A.2.2) n → live X A n) : RS h0 X h2 (M2, H2, A.2.2) := by
  obtain ⟨c1, c2, c3, c4, c5, c6, c7⟩ := c
  have e9 := e.2.2 289 (by decide)
  refine ⟨e.sh c1, c2.tr (e.im (fun x hx => by unfold Pr at hx; omega)), fun r hr => ?_, ⟨hM, hH, fun n hn hln => ?_⟩, ?_, ?_, ?_⟩
  · rw [(e.2.2 295 (by decide)).1]; exact c3 r hr
  · obtain ⟨a1, a2, a3⟩ := c4.2.2 n hn (hl n hn hln)
    refine ⟨?_, ?_, fun i hi => ⟨?_, ?_, ?_⟩⟩
    · show h2.2.1 293 n = _
      rw [(e.2.2 293 (by decide)).1]; exact a1
    · show h2.2.1 294 n = _
      rw [(e.2.2 294 (by decide)).1]; exact a2
    · show h2.2.1 296 (12 * n + i) = _
      rw [(e.2.2 296 (by decide)).1]; exact (a3 i hi).1
    · show h2.2.2.1 297 (12 * n + i) = _
      rw [(e.2.2 297 (by decide)).2.1]; exact (a3 i hi).2.1
    · show h2.2.2.2.1 298 (12 * n + i) = _
      rw [(e.2.2 298 (by decide)).2.2]; exact (a3 i hi).2.2
  · rw [e9.1, e9.2.1]; exact c5
  · rw [e9.1]; exact c6
  · rw [e9.1]; exact c7
theorem Wf.mh {B : Nat} {X Y : List Nat} {A : Ab} {M2 H2 : Nat → Int32} (w : Wf B X A) (hM : ∀ g, g < 4 → plOk (M2 g)) (hH : ∀ k, k < 24 → hOk (H2 k)) (hE : ∀ g, g < 4 → ∀ p, p < 6 → M2 g ≤ nI p → H2 (6 * g + p) = -14) (hl : ∀ n, n < 31 → live Y (M2, H2, A.2.2) n → live X A n) : Wf B Y (M2, H2, A.2.2) := ⟨hM, hH, hE, fun n hn h => w.2.2.2 n hn (hl n hn h)⟩
/-- what stands at a place, as holds() says it -/
def ct (A : Ab) (k : Nat) : Int32 := if A.2.1 k < 0 then -(A.2.1 k) else nI (A.2.2.1 (A.2.1 k).toNatClampNeg).1
theorem content_A {B : Nat} {X : List Nat} {A : Ab} (w : Wf B X A) {G q m : Nat} (hG : G < 4) (hm : m ≤ 6) (hq : q < m) (e1 : A.1 G = nI m) : (∀ h0 S Y h, CS h0 S Y h A → fX9_contentOf (some 1) (nI G) (nI q) h = some (ct A (6 * G + q), h)) ∧ ∀ q0 Y k, RS q0 Y k A → fX13_holdsOf (some 289) (nI G) (nI q) k = some (ct A (6 * G + q), k) := by
  have hpf : pf (A.1 G) (nI q) = 0 := by rw [e1]; exact pf_nI hm hq
  have z0 : (0 : Int32) ≤ 0 := by decide
  have i1 := dnIn_nI (show 6 * G + q < 30 by omega) (by decide)
  have i2 : (nI (6 * G + q)).toNatClampNeg = 6 * G + q := nI_clamp (by omega)
  have neg : A.2.1 (6 * G + q) < 0 → ∀ h0 S Y h, CS h0 S Y h A → fX9_contentOf (some 1) (nI G) (nI q) h = some (ct A (6 * G + q), h) := fun hneg h0 S Y h c => by
    have hd : h.2.1 (1 + 2) (6 * G + q) = A.2.1 (6 * G + q) := c.hd (by omega)
    have e : ct A (6 * G + q) = -(A.2.1 (6 * G + q)) := if_pos hneg
    rw [e]
    simp only [fX9_contentOf, dnB_eval, sv (st1 c.1), placeFault_c c.1 hG, c.pl hG, hpf, z0, if_true, rowAt_no c.1 hG hm (by rw [c.pl hG, e1]) hq (by rw [c.hd (by omega)]; exact hneg), Option.elim, sg_1 (st1 c.1), at_c6, sa_2 (st1 c.1), i1, i2, hd, dnP]
  have hr : ∀ q0 Y k, RS q0 Y k A → fX13_held (some 289) (nI G) (nI q) k = some (rc (A.2.1 (6 * G + q)), k) := fun q0 Y k r => by rw [held_r r.1 hG (by omega), r.hd (by omega)]
  rcases w.2.1 (6 * G + q) (by omega) with e | e | e | ⟨n, hn, e⟩
  · have hneg : A.2.1 (6 * G + q) < 0 := by rw [e]; decide
    refine ⟨neg hneg, fun q0 Y k r => ?_⟩
    simp only [fX13_holdsOf, dnB_eval, v_289 r.1, hr q0 Y k r]
    unfold ct
    rw [e]
    rfl
  · have hneg : A.2.1 (6 * G + q) < 0 := by rw [e]; decide
    refine ⟨neg hneg, fun q0 Y k r => ?_⟩
    simp only [fX13_holdsOf, dnB_eval, v_289 r.1, hr q0 Y k r]
    unfold ct
    rw [e]
    rfl
  · have hneg : A.2.1 (6 * G + q) < 0 := by rw [e]; decide
    refine ⟨neg hneg, fun q0 Y k r => ?_⟩
    simp only [fX13_holdsOf, dnB_eval, v_289 r.1, hr q0 Y k r]
    unfold ct
    rw [e]
    rfl
  · have hl : ∀ Y, live Y A n := fun Y => .inr ⟨_, by omega, e⟩
    have hp : ¬ nI n < 0 := nI_pos (by omega)
    have e2 : ct A (6 * G + q) = nI (A.2.2.1 n).1 := by
      unfold ct
      rw [e, if_neg hp, nI_clamp (by omega)]
    rw [e2]
    refine ⟨fun h0 S Y h c => ?_, fun q0 Y k r => ?_⟩
    · simp only [fX9_contentOf, dnB_eval, sv (st1 c.1), placeFault_c c.1 hG, c.pl hG, hpf, z0, if_true, rowAt_yes c.1 hG hm (by rw [c.pl hG, e1]) hq hn (by rw [c.hd (by omega), e]), Option.elim, rg_i (row1 c.1 hn), (c.row hn (hl Y)).1, dnP]
    · have h3 := (r.row hn (hl Y)).1
      simp only [fX13_holdsOf, dnB_eval, v_289 r.1, hr q0 Y k r, e, rc_nI hn, hp, if_false, g_289_6 r.1, a_293 r.1, dnIn_nI (show n < 32 by omega) (by decide), nI_clamp (show n < 2 ^ 31 by omega), if_true, h3, dnP]

theorem held_live {X : List Nat} {A : Ab} {k : Nat} (hk : k < 24) : ∀ n, n < 31 → A.2.1 k = nI n → live X A n := fun n _ e => .inr ⟨k, hk, e⟩
theorem step_thing {B : Nat} (g p x : Int32) : Step B B (fX9_setThing (some 1) g p x) (fX13_thingDeed (some 289) g p x) := by
  intro A w
  cases hg : inB g 0 3
  · exact step_ro (-1) w (fun h0 h c => by simp only [fX9_setThing, hg, dnB_eval, c_isGrid, c_isKind, c_isSort, c_isPlain, r_isGrid, r_isKind, r_isSort, r_isPlain, r_in, dnP, Bool.false_eq_true, if_false, if_true]) (fun q0 q r => by simp only [fX13_thingDeed, hg, dnB_eval, c_isGrid, c_isKind, c_isSort, c_isPlain, r_isGrid, r_isKind, r_isSort, r_isPlain, r_in, dnP, Bool.false_eq_true, if_false, if_true])
  cases hx : inB x 0 2
  · have h1 : ¬ (0 ≤ x ∧ x ≤ 2) := of_decide_eq_false hx
    refine step_ro (-1) w (fun h0 h c => ?_) (fun q0 q r => by simp only [fX13_thingDeed, hg, hx, dnB_eval, c_isGrid, c_isKind, c_isSort, c_isPlain, r_isGrid, r_isKind, r_isSort, r_isPlain, r_in, dnP, Bool.false_eq_true, if_false, if_true])
    by_cases c0 : x < 0
    · simp only [fX9_setThing, hg, c0, dnB_eval, c_isGrid, c_isKind, c_isSort, c_isPlain, r_isGrid, r_isKind, r_isSort, r_isPlain, r_in, dnP, Bool.false_eq_true, if_false, if_true]
    · have c2 : ¬ x ≤ 2 := fun hc => h1 ⟨Int32.not_lt.mp c0, hc⟩
      simp only [fX9_setThing, hg, c0, c2, dnB_eval, c_isGrid, c_isKind, c_isSort, c_isPlain, r_isGrid, r_isKind, r_isSort, r_isPlain, r_in, dnP, Bool.false_eq_true, if_false, if_true]
  obtain ⟨y, hy, rfl⟩ := inB_of (n := 2) (by decide) hx
  have x0 : ¬ nI y < 0 := nI_pos (by omega)
  have x2 : nI y ≤ 2 := (of_decide_eq_true hx).2
  rcases lookP w g p with ⟨f, f0, -, f2, f3⟩ | ⟨G, q, m, hG, hq, hm, rfl, rfl, e1, -, ho, l1, l2⟩
  · obtain ⟨n1, n2⟩ := neg_fault f0
    exact step_ro f w (fun h0 h c => by simp only [fX9_setThing, hg, x0, x2, sv (st1 c.1), (f2 h0 _ _ h c).1, n2, dnB_eval, c_isGrid, c_isKind, c_isSort, c_isPlain, r_isGrid, r_isKind, r_isSort, r_isPlain, r_in, dnP, Bool.false_eq_true, if_false, if_true]) (fun q0 q r => by simp only [fX13_thingDeed, fX13_thingDeed_j40, hg, hx, v_289 r.1, (f3 hg q0 _ q r).1, n1, not_false_eq_true, dnB_eval, c_isGrid, c_isKind, c_isSort, c_isPlain, r_isGrid, r_isKind, r_isSort, r_isPlain, r_in, dnP, Bool.false_eq_true, if_false, if_true])
  · have z0 : (0 : Int32) ≤ 0 := by decide
    have i1 := dnIn_nI (show 6 * G + q < 30 by omega) (by decide)
    have i2 : (nI (6 * G + q)).toNatClampNeg = 6 * G + q := nI_clamp (by omega)
    have key : ∀ v : Int32, hOk v → v < 0 → (∀ s : dnH, Sh s → (if ¬ nI y = 0 then (if ¬ nI y = 1 then fX9_setThing_j65 (some (1 + 2)) (nI (6 * G + q)) (-13) else fX9_setThing_j65 (some (1 + 2)) (nI (6 * G + q)) (-12)) else fX9_setThing_j65 (some (1 + 2)) (nI (6 * G + q)) (-14)) s = fX9_setThing_j65 (some (1 + 2)) (nI (6 * G + q)) v s) → -1 - nI y = rc v → ∃ v A2, Wf B [] A2 ∧ (∀ h0 h, CS h0 sp0 [] h A → ∃ h1, fX9_setThing (some 1) (nI G) (nI q) (nI y) h = some (v, h1) ∧ CS h0 sp0 [] h1 A2) ∧ ∀ q0 k, RS q0 [] k A → ∃ q1 Y, fX13_thingDeed (some 289) (nI G) (nI q) (nI y) k = some (v, q1) ∧ RS q0 Y q1 A2 := fun v hv hv0 kc kr => by
      have hl : ∀ n, n < 31 → v = nI n → live [] A n := fun n hn e => absurd (show nI n < 0 by rw [← e]; exact hv0) (nI_pos (by omega))
      refine ⟨1, setH A (6 * G + q) v, w.setH hG hm hq e1 hv hl, fun h0 h c => ⟨_, ?_, c.place (by omega) hl⟩, fun q0 k r => ?_⟩
      · have e3 := st_2 (st1 c.1) (nI (6 * G + q)) v
        simp only [fX9_setThing, hg, x0, x2, sv (st1 c.1), (l1 h0 _ _ h c).1, z0, sg_1 (st1 c.1), at_c6, dnB_eval, c_isGrid, c_isKind, c_isSort, c_isPlain, r_isGrid, r_isKind, r_isSort, r_isPlain, r_in, dnP, Bool.false_eq_true, if_false, if_true]
        rw [kc h c.1]
        simp only [fX9_setThing_j65, dnB_eval, e3, i1, i2, if_true, dnP]
      · obtain ⟨a2, r2⟩ := holdsNow_A (v := v) (p := q) r hG (by omega) hl
        refine ⟨_, _, ?_, r2⟩
        simp only [fX13_thingDeed, fX13_thingDeed_j40, hg, hx, v_289 r.1, (l2 q0 _ k r).1, kr, a2, not_true_eq_false, dnB_eval, c_isGrid, c_isKind, c_isSort, c_isPlain, r_isGrid, r_isKind, r_isSort, r_isPlain, r_in, dnP, Bool.false_eq_true, if_false, if_true]
    rcases (by omega : y = 0 ∨ y = 1 ∨ y = 2) with e | e | e
    · subst e
      exact key (-14) (.inl rfl) (by decide) (fun s _ => rfl) (by decide)
    · subst e
      exact key (-12) (.inr (.inl rfl)) (by decide) (fun s _ => rfl) (by decide)
    · subst e
      exact key (-13) (.inr (.inr (.inl rfl))) (by decide) (fun s _ => rfl) (by decide)
theorem call_thing {B : Nat} (g p x : Int32) : Call B B (fX12_thing (some 0) g p x) (fX13_thing (some 289) g p x) :=
  callA (Nat.le_refl _) (fun h v h1 s1 s2 e => by simp only [fX12_thing, dnB_eval, g_0_0 s1, sv (st1 s1), e, v_0 s2, tally_c s2, dnP]) (fun h v h1 s1 s2 e => by simp only [fX13_thing, dnB_eval, v_289 s1, e, v_289 s2, said_r s2, dnP]) (step_thing g p x)
/-- two places asked for -/
theorem look2 {B : Nat} {X : List Nat} {A : Ab} (w : Wf B X A) (g p g2 p2 : Int32) :
    (∃ f : Int32, f < 0 ∧ (∀ h0 S Y h, CS h0 S Y h A → fX9_pairFault (some 1) g p g2 p2 h = some (f, h)) ∧ ((inB g 0 3 = true ∧ inB g2 0 3 = true) → ∀ q0 Y q, RS q0 Y q A → fX13_twoPlaces (some 289) g p g2 p2 q = some (f, q)) ∧ (¬ (inB g 0 3 = true ∧ inB g2 0 3 = true) → f = -1)) ∨
    (∃ G q m G2 q2 m2 : Nat, G < 4 ∧ q < m ∧ m ≤ 6 ∧ g = nI G ∧ p = nI q ∧ A.1 G = nI m ∧ G2 < 4 ∧ q2 < m2 ∧ m2 ≤ 6 ∧ g2 = nI G2 ∧ p2 = nI q2 ∧ A.1 G2 = nI m2 ∧ inB g 0 3 = true ∧ inB g2 0 3 = true ∧ (∀ h0 S Y h, CS h0 S Y h A → fX9_pairFault (some 1) g p g2 p2 h = some (0, h)) ∧ ∀ q0 Y k, RS q0 Y k A → fX13_twoPlaces (some 289) g p g2 p2 k = some (0, k) ∧ fX13_held (some 289) g p k = some (rc (A.2.1 (6 * G + q)), k) ∧ fX13_held (some 289) g2 p2 k = some (rc (A.2.1 (6 * G2 + q2)), k)) := by
  cases hg : inB g 0 3
  · exact .inl ⟨-1, by decide, fun h0 S Y h c => (by simp only [fX9_pairFault, hg, dnB_eval, c_isGrid, c_isKind, c_isSort, c_isPlain, r_isGrid, r_isKind, r_isSort, r_isPlain, r_in, dnP, Bool.false_eq_true, if_false, if_true]), fun hc => (by cases hc.1), fun _ => rfl⟩
  cases hg2 : inB g2 0 3
  · exact .inl ⟨-1, by decide, fun h0 S Y h c => (by simp only [fX9_pairFault, hg, hg2, dnB_eval, c_isGrid, c_isKind, c_isSort, c_isPlain, r_isGrid, r_isKind, r_isSort, r_isPlain, r_in, dnP, Bool.false_eq_true, if_false, if_true]), fun hc => (by cases hc.2), fun _ => rfl⟩
  have z0 : (0 : Int32) ≤ 0 := by decide
  rcases lookP w g p with ⟨f, f0, -, f2, f3⟩ | ⟨G, q, m, hG, hq, hm, rfl, rfl, e1, -, ho, l1, l2⟩
  · obtain ⟨n1, n2⟩ := neg_fault f0
    exact .inl ⟨f, f0, fun h0 S Y h c => (by simp only [fX9_pairFault, hg, hg2, sv (st1 c.1), (f2 h0 _ _ h c).1, n2, dnB_eval, c_isGrid, c_isKind, c_isSort, c_isPlain, r_isGrid, r_isKind, r_isSort, r_isPlain, r_in, dnP, Bool.false_eq_true, if_false, if_true]), fun _ q0 Y q r => (by simp only [fX13_twoPlaces, v_289 r.1, (f3 hg q0 _ q r).1, n1, dnB_eval, c_isGrid, c_isKind, c_isSort, c_isPlain, r_isGrid, r_isKind, r_isSort, r_isPlain, r_in, dnP, Bool.false_eq_true, if_false, if_true]), fun hc => absurd ⟨rfl, rfl⟩ hc⟩
  · rcases lookP w g2 p2 with ⟨f, f0, -, f2, f3⟩ | ⟨G2, q2, m2, hG2, hq2, hm2, rfl, rfl, e2, -, ho2, k1, k2⟩
    · exact .inl ⟨f, f0, fun h0 S Y h c => (by simp only [fX9_pairFault, hg, hg2, sv (st1 c.1), (l1 h0 _ _ h c).1, z0, (f2 h0 _ _ h c).1, dnB_eval, c_isGrid, c_isKind, c_isSort, c_isPlain, r_isGrid, r_isKind, r_isSort, r_isPlain, r_in, dnP, Bool.false_eq_true, if_false, if_true]), fun _ q0 Y q r => (by simp only [fX13_twoPlaces, v_289 r.1, (l2 q0 _ q r).1, (f3 hg2 q0 _ q r).1, dnB_eval, c_isGrid, c_isKind, c_isSort, c_isPlain, r_isGrid, r_isKind, r_isSort, r_isPlain, r_in, dnP, Bool.false_eq_true, if_false, if_true]), fun hc => absurd ⟨rfl, rfl⟩ hc⟩
    · exact .inr ⟨G, q, m, G2, q2, m2, hG, hq, hm, rfl, rfl, e1, hG2, hq2, hm2, rfl, rfl, e2, rfl, rfl, fun h0 S Y h c => (by simp only [fX9_pairFault, hg, hg2, sv (st1 c.1), (l1 h0 _ _ h c).1, z0, (k1 h0 _ _ h c).1, dnB_eval, c_isGrid, c_isKind, c_isSort, c_isPlain, r_isGrid, r_isKind, r_isSort, r_isPlain, r_in, dnP, Bool.false_eq_true, if_false, if_true]), fun q0 Y k r => ⟨by simp only [fX13_twoPlaces, v_289 r.1, (l2 q0 _ k r).1, (k2 q0 _ k r).1, dnB_eval, c_isGrid, c_isKind, c_isSort, c_isPlain, r_isGrid, r_isKind, r_isSort, r_isPlain, r_in, dnP, Bool.false_eq_true, if_false, if_true], (l2 q0 _ k r).2, (k2 q0 _ k r).2⟩⟩
theorem step_share {B : Nat} (g p g2 p2 : Int32) : Step B B (fX9_shareContent (some 1) g p g2 p2) (fX13_shareDeed (some 289) g p g2 p2) := by
  intro A w
  rcases look2 w g p g2 p2 with ⟨f, f0, f1, f2, f3⟩ | ⟨G, q, m, G2, q2, m2, hG, hq, hm, rfl, rfl, e1, hG2, hq2, hm2, rfl, rfl, e2, hg, hg2, l1, l2⟩
  · obtain ⟨n1, n2⟩ := neg_fault f0
    refine step_ro f w (fun h0 h c => by simp only [fX9_shareContent, sv (st1 c.1), f1 h0 _ _ h c, n2, dnB_eval, c_isGrid, c_isKind, c_isSort, c_isPlain, r_isGrid, r_isKind, r_isSort, r_isPlain, r_in, dnP, Bool.false_eq_true, if_false, if_true]) (fun q0 q r => ?_)
    cases hg : inB g 0 3
    · rw [f3 (fun hc => by rw [hg] at hc; cases hc.1)]
      simp only [fX13_shareDeed, hg, dnB_eval, c_isGrid, c_isKind, c_isSort, c_isPlain, r_isGrid, r_isKind, r_isSort, r_isPlain, r_in, dnP, Bool.false_eq_true, if_false, if_true]
    cases hg2 : inB g2 0 3
    · rw [f3 (fun hc => by rw [hg2] at hc; cases hc.2)]
      simp only [fX13_shareDeed, hg, hg2, dnB_eval, c_isGrid, c_isKind, c_isSort, c_isPlain, r_isGrid, r_isKind, r_isSort, r_isPlain, r_in, dnP, Bool.false_eq_true, if_false, if_true]
    simp only [fX13_shareDeed, hg, hg2, v_289 r.1, f2 ⟨hg, hg2⟩ q0 _ q r, n1, dnB_eval, c_isGrid, c_isKind, c_isSort, c_isPlain, r_isGrid, r_isKind, r_isSort, r_isPlain, r_in, dnP, Bool.false_eq_true, if_false, if_true]
  · have z0 : (0 : Int32) ≤ 0 := by decide
    have i1 := dnIn_nI (show 6 * G + q < 30 by omega) (by decide)
    have i2 : (nI (6 * G + q)).toNatClampNeg = 6 * G + q := nI_clamp (by omega)
    have j1 := dnIn_nI (show 6 * G2 + q2 < 30 by omega) (by decide)
    have j2 : (nI (6 * G2 + q2)).toNatClampNeg = 6 * G2 + q2 := nI_clamp (by omega)
    have hl : ∀ n, n < 31 → A.2.1 (6 * G + q) = nI n → live [] A n := held_live (by omega)
    have w2 : Wf B [] (setH A (6 * G2 + q2) (A.2.1 (6 * G + q))) := w.setH hG2 hm2 hq2 e2 (w.2.1 _ (by omega)) hl
    obtain ⟨t1, t2⟩ := content_A w2 hG2 hm2 hq2 e2
    refine ⟨ct (setH A (6 * G2 + q2) (A.2.1 (6 * G + q))) (6 * G2 + q2), _, w2, fun h0 h c => ?_, fun q0 k r => ?_⟩
    · have c2 := c.place (k := 6 * G2 + q2) (v := A.2.1 (6 * G + q)) (by omega) hl
      have hd : h.2.1 (1 + 2) (6 * G + q) = A.2.1 (6 * G + q) := c.hd (by omega)
      have e3 := st_2 (st1 c.1) (nI (6 * G2 + q2)) (A.2.1 (6 * G + q))
      have t3 := t1 h0 _ _ _ c2
      refine ⟨_, ?_, c2⟩
      simp only [fX9_shareContent, sv (st1 c.1), l1 h0 _ _ h c, z0, sg_1 (st1 c.1), at_c6, sa_2 (st1 c.1), i1, i2, hd, e3, j1, j2, sv (st1 c2.1), t3, dnB_eval, c_isGrid, c_isKind, c_isSort, c_isPlain, r_isGrid, r_isKind, r_isSort, r_isPlain, r_in, dnP, Bool.false_eq_true, if_false, if_true]
    · obtain ⟨a1, a2, a3⟩ := l2 q0 _ k r
      obtain ⟨b2, r2⟩ := holdsNow_A (v := A.2.1 (6 * G + q)) (p := q2) r hG2 (by omega) hl
      refine ⟨_, _, ?_, r2⟩
      simp only [fX13_shareDeed, hg, hg2, v_289 r.1, a1, a2, b2, v_289 r2.1, t2 q0 _ _ r2, dnB_eval, c_isGrid, c_isKind, c_isSort, c_isPlain, r_isGrid, r_isKind, r_isSort, r_isPlain, r_in, dnP, Bool.false_eq_true, if_false, if_true]
theorem call_share {B : Nat} (g p g2 p2 : Int32) : Call B B (fX12_share (some 0) g p g2 p2) (fX13_share (some 289) g p g2 p2) :=
  callA (Nat.le_refl _) (fun h v h1 s1 s2 e => by simp only [fX12_share, dnB_eval, g_0_0 s1, sv (st1 s1), e, v_0 s2, tally_c s2, dnP]) (fun h v h1 s1 s2 e => by simp only [fX13_share, dnB_eval, v_289 s1, e, v_289 s2, said_r s2, dnP]) (step_share g p g2 p2)
def swH (A : Ab) (i j : Nat) : Nat → Int32 := fun k => if k = j then A.2.1 i else if k = i then A.2.1 j else A.2.1 k
theorem swH_live {X : List Nat} {A : Ab} {i j : Nat} (hi : i < 24) (hj : j < 24) : ∀ n, n < 31 → live X (A.1, swH A i j, A.2.2) n → live X A n := by
  intro n hn h
  rcases h with h | ⟨k, hk, e⟩
  · exact .inl h
  · have e : (if k = j then A.2.1 i else if k = i then A.2.1 j else A.2.1 k) = nI n := e
    split at e
    · exact .inr ⟨i, hi, e⟩
    · split at e
      · exact .inr ⟨j, hj, e⟩
      · exact .inr ⟨k, hk, e⟩
theorem step_swap {B : Nat} (g p g2 p2 : Int32) : Step B B (fX9_exchange (some 1) g p g2 p2) (fX13_swapDeed (some 289) g p g2 p2) := by
  intro A w
  rcases look2 w g p g2 p2 with ⟨f, f0, f1, f2, f3⟩ | ⟨G, q, m, G2, q2, m2, hG, hq, hm, rfl, rfl, e1, hG2, hq2, hm2, rfl, rfl, e2, hg, hg2, l1, l2⟩
  · obtain ⟨n1, n2⟩ := neg_fault f0
    refine step_ro f w (fun h0 h c => by simp only [fX9_exchange, sv (st1 c.1), f1 h0 _ _ h c, n2, dnB_eval, c_isGrid, c_isKind, c_isSort, c_isPlain, r_isGrid, r_isKind, r_isSort, r_isPlain, r_in, dnP, Bool.false_eq_true, if_false, if_true]) (fun q0 q r => ?_)
    cases hg : inB g 0 3
    · rw [f3 (fun hc => by rw [hg] at hc; cases hc.1)]
      simp only [fX13_swapDeed, hg, dnB_eval, c_isGrid, c_isKind, c_isSort, c_isPlain, r_isGrid, r_isKind, r_isSort, r_isPlain, r_in, dnP, Bool.false_eq_true, if_false, if_true]
    cases hg2 : inB g2 0 3
    · rw [f3 (fun hc => by rw [hg2] at hc; cases hc.2)]
      simp only [fX13_swapDeed, hg, hg2, dnB_eval, c_isGrid, c_isKind, c_isSort, c_isPlain, r_isGrid, r_isKind, r_isSort, r_isPlain, r_in, dnP, Bool.false_eq_true, if_false, if_true]
    simp only [fX13_swapDeed, hg, hg2, v_289 r.1, f2 ⟨hg, hg2⟩ q0 _ q r, n1, dnB_eval, c_isGrid, c_isKind, c_isSort, c_isPlain, r_isGrid, r_isKind, r_isSort, r_isPlain, r_in, dnP, Bool.false_eq_true, if_false, if_true]
  · have z0 : (0 : Int32) ≤ 0 := by decide
    have i1 := dnIn_nI (show 6 * G + q < 30 by omega) (by decide)
    have i2 : (nI (6 * G + q)).toNatClampNeg = 6 * G + q := nI_clamp (by omega)
    have j1 := dnIn_nI (show 6 * G2 + q2 < 30 by omega) (by decide)
    have j2 : (nI (6 * G2 + q2)).toNatClampNeg = 6 * G2 + q2 := nI_clamp (by omega)
    have hl := swH_live (X := []) (A := A) (i := 6 * G + q) (j := 6 * G2 + q2) (by omega) (by omega)
    have w2 : Wf B [] (A.1, swH A (6 * G + q) (6 * G2 + q2), A.2.2) := by
      refine w.mh w.1 (fun k hk => ?_) (fun g hg p hp hle => ?_) hl
      · unfold swH
        split
        · exact w.2.1 _ (by omega)
        · split
          · exact w.2.1 _ (by omega)
          · exact w.2.1 _ hk
      · have a1 : ¬ 6 * g + p = 6 * G2 + q2 := fun hc => by
          have x1 : g = G2 := by omega
          have x2 : p = q2 := by omega
          subst x1 x2
          rw [e2, nI_leI (by omega) (by omega)] at hle
          omega
        have a2 : ¬ 6 * g + p = 6 * G + q := fun hc => by
          have x1 : g = G := by omega
          have x2 : p = q := by omega
          subst x1 x2
          rw [e1, nI_leI (by omega) (by omega)] at hle
          omega
        unfold swH
        rw [if_neg a1, if_neg a2]
        exact w.2.2.1 g hg p hp hle
    obtain ⟨t1, t2⟩ := content_A w2 hG hm hq e1
    refine ⟨ct (A.1, swH A (6 * G + q) (6 * G2 + q2), A.2.2) (6 * G + q), _, w2, fun h0 h c => ?_, fun q0 k r => ?_⟩
    · have hd : h.2.1 (1 + 2) (6 * G + q) = A.2.1 (6 * G + q) := c.hd (by omega)
      have hd2 : h.2.1 (1 + 2) (6 * G2 + q2) = A.2.1 (6 * G2 + q2) := c.hd (by omega)
      have e3 := st_2 (st1 c.1) (nI (6 * G + q)) (A.2.1 (6 * G2 + q2))
      have s2 : Sh (dnSI h 3 (6 * G + q) (A.2.1 (6 * G2 + q2))) := c.1
      have e4 := st_2 (st1 s2) (nI (6 * G2 + q2)) (A.2.1 (6 * G + q))
      have c2 : CS h0 sp0 [] (dnSI (dnSI h 3 (6 * G + q) (A.2.1 (6 * G2 + q2))) 3 (6 * G2 + q2) (A.2.1 (6 * G + q))) (A.1, swH A (6 * G + q) (6 * G2 + q2), A.2.2) := by
        refine c.mh ((eqc_SI (fun hc => hc.2 rfl)).tr (eqc_SI (fun hc => hc.2 rfl))) (fun g hg => ?_) (fun k hk => ?_) (fun p hp => ?_) hl
        · simp [dnSI, dnUp]
          exact c.pl hg
        · have := c.hd hk
          unfold swH
          simp only [dnSI, dnUp, true_and, this]
        · have := c.2.2.2.1 p hp
          have n1 : ¬ 24 + p = 6 * G + q := by omega
          have n2 : ¬ 24 + p = 6 * G2 + q2 := by omega
          simp only [dnSI, dnUp, true_and, this, n1, n2, if_false]
      refine ⟨_, ?_, c2⟩
      simp only [fX9_exchange, sv (st1 c.1), l1 h0 _ _ h c, z0, sg_1 (st1 c.1), at_c6, sa_2 (st1 c.1), i1, i2, hd, hd2, e3, sg_1 (st1 s2), e4, j1, j2, sv (st1 c2.1), t1 h0 _ _ _ c2, dnB_eval, c_isGrid, c_isKind, c_isSort, c_isPlain, r_isGrid, r_isKind, r_isSort, r_isPlain, r_in, dnP, Bool.false_eq_true, if_false, if_true]
    · obtain ⟨a1, a2, a3⟩ := l2 q0 _ k r
      have b1 := holdsNow_r r.1 hG (show q < 6 by omega) (rc (A.2.1 (6 * G2 + q2)))
      have s2 : Sh (dnSI k 292 (6 * G + q) (rc (A.2.1 (6 * G2 + q2)))) := r.1
      have b2 := holdsNow_r s2 hG2 (show q2 < 6 by omega) (rc (A.2.1 (6 * G + q)))
      have r2 : RS q0 [] (dnSI (dnSI k 292 (6 * G + q) (rc (A.2.1 (6 * G2 + q2)))) 292 (6 * G2 + q2) (rc (A.2.1 (6 * G + q)))) (A.1, swH A (6 * G + q) (6 * G2 + q2), A.2.2) := by
        refine r.mh ((eqc_SI (fun hc => hc.2 rfl)).tr (eqc_SI (fun hc => hc.2 rfl))) (fun g hg => ?_) (fun k' hk => ?_) hl
        · simp [dnSI, dnUp]
          exact r.pl hg
        · have := r.hd hk
          unfold swH
          simp only [dnSI, dnUp, true_and, this]
          split
          · rfl
          · split <;> rfl
      refine ⟨_, _, ?_, r2⟩
      simp only [fX13_swapDeed, hg, hg2, v_289 r.1, a1, a2, a3, b1, v_289 s2, b2, v_289 r2.1, t2 q0 _ _ r2, dnB_eval, c_isGrid, c_isKind, c_isSort, c_isPlain, r_isGrid, r_isKind, r_isSort, r_isPlain, r_in, dnP, Bool.false_eq_true, if_false, if_true]
theorem call_swap {B : Nat} (g p g2 p2 : Int32) : Call B B (fX12_swap (some 0) g p g2 p2) (fX13_swap (some 289) g p g2 p2) :=
  callA (Nat.le_refl _) (fun h v h1 s1 s2 e => by simp only [fX12_swap, dnB_eval, g_0_0 s1, sv (st1 s1), e, v_0 s2, tally_c s2, dnP]) (fun h v h1 s1 s2 e => by simp only [fX13_swap, dnB_eval, v_289 s1, e, v_289 s2, said_r s2, dnP]) (step_swap g p g2 p2)
