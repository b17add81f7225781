/-! ABS 4: one step of both; a call made of it -/
def Step (B B2 : Nat) (f g : dnM Int32) : Prop := ∀ A, Wf B [] A → ∃ v A2, Wf B2 [] A2 ∧ (∀ h0 h, CS h0 sp0 [] h A → ∃ h1, f h = some (v, h1) ∧ CS h0 sp0 [] h1 A2) ∧ ∀ q0 q, RS q0 [] q A → ∃ q1 Y, g q = some (v, q1) ∧ RS q0 Y q1 A2
theorem openA {B : Nat} {h : dnH} (a : Rel B h) : ∃ A, Wf B [] A ∧ CS h sp0 [] h A ∧ ∀ h1 v, Eqc Pc h h1 → RS (cnt h1 288 v) [] (cnt h1 288 v) A := by
  obtain ⟨a1, a2, a3, a4, a5, a6, a7, a8, a9, b1, b2, b3, b4⟩ := a
  obtain ⟨w, c, r⟩ := st_abs (h.2.2.1 258 0, h.2.1 258 1, h.2.1 258 2) a6
  refine ⟨_, w, ⟨a1, Eqc.rf, a3, a4, c, rfl, rfl, rfl⟩, fun h1 v e => ?_⟩
  have ec : Eqc (fun x => 289 ≤ x) h (cnt h1 288 v) := (e.im (fun x hx => by unfold Pc; omega)).tr (eqc_cnt (by omega))
  refine ⟨ec.sh a1, Eqc.rf, fun r hr => ?_, ?_, ?_, rfl, rfl⟩
  · rw [(ec.2.2 295 (by decide)).1]
    exact a5 r hr
  · rw [vR_go ec (fun x h1 h2 h3 => by omega)]
    exact r
  · rw [(ec.2.2 289 (by decide)).1, (ec.2.2 289 (by decide)).2.1]
    exact ⟨a7.1.symm, a7.2.1.symm, a7.2.2.symm⟩
theorem closeA {B B2 : Nat} {h h1 k1 : dnH} {X Y : List Nat} {v : Int32} {A2 : Ab} (a : Rel B h) (hB : B ≤ B2) (w : Wf B2 [] A2) (c : CS h sp0 X h1 A2) (r : RS (cnt h1 288 v) Y k1 A2) : Rel B2 (flI (cnt k1 290 v) 295 32 0) := by
  have e9 : ∀ k, (cnt h1 288 v).2.1 289 k = h.2.1 289 k := fun k => by
    rw [cntI (by decide), (c.2.1.2.2 289 (by unfold Pc; decide)).1]
  obtain ⟨n1, n2, n3⟩ := c.2.2.2.2.2
  obtain ⟨m1, m2, m3⟩ := r.2.2.2.2.1
  exact close a hB c.2.1 r.2.1 (abs_st w (c.2.2.2.2.1.sub (fun _ hm => by cases hm)) (r.2.2.2.1.sub (fun _ hm => by cases hm))) c.2.2.1 c.2.2.2.1 ⟨n1.trans m1.symm, n2.trans m2.symm, n3.trans m3.symm⟩ (r.2.2.2.2.2.1.trans (e9 37)) ((Prod.mk.inj r.2.2.2.2.2.2).1.trans (e9 43))
theorem callA {B B2 : Nat} {F G f g : dnM Int32} (hB : B ≤ B2) (hF : ∀ h v h1, Sh h → Sh h1 → f h = some (v, h1) → F h = some (v, cnt h1 288 v)) (hG : ∀ h v h1, Sh h → Sh h1 → g h = some (v, h1) → G h = some (v, flI (cnt h1 290 v) 295 32 0)) (s : Step B B2 f g) : Call B B2 F G := by
  intro h a
  obtain ⟨A, w, c, r⟩ := openA a
  obtain ⟨v, A2, w2, kf, kg⟩ := s A w
  obtain ⟨h1, e1, c1⟩ := kf h h c
  obtain ⟨q1, Y, e2, r2⟩ := kg _ _ (r h1 v c1.2.1)
  exact ⟨v, cnt h1 288 v, _, hF h v h1 a.1 c1.1 e1, hG _ v q1 (cntSh c1.1) r2.1 e2, closeA a hB w2 c1 r2⟩
/-- a step that leaves all as it is -/
theorem step_ro {B : Nat} {A : Ab} {f g : dnM Int32} (v : Int32) (w : Wf B [] A) (kf : ∀ h0 h, CS h0 sp0 [] h A → f h = some (v, h)) (kg : ∀ q0 q, RS q0 [] q A → g q = some (v, q)) : ∃ v A2, Wf B [] A2 ∧ (∀ h0 h, CS h0 sp0 [] h A → ∃ h1, f h = some (v, h1) ∧ CS h0 sp0 [] h1 A2) ∧ ∀ q0 q, RS q0 [] q A → ∃ q1 Y, g q = some (v, q1) ∧ RS q0 Y q1 A2 :=
  ⟨v, A, w, fun h0 h c => ⟨h, kf h0 h c, c⟩, fun q0 q r => ⟨q, [], kg q0 q r, r⟩⟩
/-- a place asked for -/
theorem lookP {B : Nat} {X : List Nat} {A : Ab} (w : Wf B X A) (g p : Int32) :
    (∃ f : Int32, f < 0 ∧ (inB g 0 3 = false → f = -1) ∧ (∀ h0 S Y h, CS h0 S Y h A → fX9_placeFault (some 1) g p h = some (f, h) ∧ fX9_hasPlace (some 1) g p h = some (false, h) ∧ fX9_rowAt (some 1) g p h = some (none, h) ∧ fX9_rowFault (some 1) g p h = some (f, h)) ∧ (inB g 0 3 = true → ∀ q0 Y q, RS q0 Y q A → fX13_placeFault (some 289) g p q = some (f, q) ∧ fX13_rowFault (some 289) g p q = some (f, q))) ∨
    (∃ G q m : Nat, G < 4 ∧ q < m ∧ m ≤ 6 ∧ g = nI G ∧ p = nI q ∧ A.1 G = nI m ∧ inB g 0 3 = true ∧ hOk (A.2.1 (6 * G + q)) ∧ (∀ h0 S Y h, CS h0 S Y h A → fX9_placeFault (some 1) g p h = some (0, h) ∧ fX9_hasPlace (some 1) g p h = some (true, h)) ∧ ∀ q0 Y k, RS q0 Y k A → fX13_placeFault (some 289) g p k = some (0, k) ∧ fX13_held (some 289) g p k = some (rc (A.2.1 (6 * G + q)), k)) := by
  obtain ⟨w1, w2, w3, w4⟩ := w
  cases hg : inB g 0 3
  · refine .inl ⟨-1, by decide, fun _ => rfl, fun h0 S Y h c => ⟨placeFault_bad c.1 hg p, hasPlace_bad hg p, rowAt_bad c.1 hg p, rowFault_bad c.1 hg p⟩, fun hc => (by cases hc)⟩
  · obtain ⟨G, hG, rfl⟩ := inB_of (n := 3) (by decide) hg
    have hG : G < 4 := by omega
    by_cases c : pf (A.1 G) p = 0
    · obtain ⟨m, q, hm, e1, e2, rfl⟩ := pf_0 (w1 G hG) c
      refine .inr ⟨G, q, m, hG, e2, hm, rfl, rfl, e1, rfl, w2 _ (by omega), fun h0 S Y h cs => ⟨?_, ?_⟩, fun q0 Y k rs => ⟨?_, ?_⟩⟩
      · rw [placeFault_c cs.1 hG, cs.pl hG, c]
      · rw [hasPlace_c cs.1 hG, cs.pl hG, e1, decide_eq_true ⟨Int32.not_lt.mp (nI_pos (by omega)), (nI_ltI (by omega) (by omega)).mpr e2⟩]
      · rw [placeFault_r rs.1 hG (by rw [rs.pl hG]; exact w1 G hG), rs.pl hG, c]
      · rw [held_r rs.1 hG (by omega), rs.hd (by omega)]
    · have hn : pf (A.1 G) p < 0 := by
        unfold pf at c ⊢
        by_cases c1 : A.1 G < 0
        · rw [if_pos c1]; decide
        · rw [if_neg c1] at c ⊢
          by_cases c2 : (0 ≤ p ∧ p < A.1 G)
          · rw [if_pos c2] at c
            exact absurd rfl c
          · rw [if_neg c2]; decide
      refine .inl ⟨pf (A.1 G) p, hn, fun hb => (by cases hb), fun h0 S Y h cs => ?_, fun _ q0 Y k rs => ?_⟩
      · have e := cs.pl hG
        refine ⟨?_, ?_, ?_, ?_⟩
        · rw [placeFault_c cs.1 hG, e]
        · rw [hasPlace_c cs.1 hG, e, decide_eq_false (fun hc => c ?_)]
          unfold pf
          have h0 : ¬ A.1 G < 0 := by
            have h1 := Int32.le_iff_toInt_le.mp hc.1
            have h2 := Int32.lt_iff_toInt_lt.mp hc.2
            intro h3
            have h4 := Int32.lt_iff_toInt_lt.mp h3
            omega
          rw [if_neg h0, if_pos hc]
        · exact rowAt_out cs.1 hG (by rw [e]; exact c)
        · rw [rowFault_out cs.1 hG (by rw [e]; exact c), e]
      · have e := rs.pl hG
        refine ⟨?_, ?_⟩
        · rw [placeFault_r rs.1 hG (by rw [e]; exact w1 G hG), e]
        · rw [rowFault_rOut rs.1 hG (by rw [e]; exact w1 G hG) (by rw [e]; exact c), e]
/-- a row asked for -/
theorem lookR {B : Nat} {X : List Nat} {A : Ab} (w : Wf B X A) (g p : Int32) :
    (∃ f : Int32, f < 0 ∧ (inB g 0 3 = false → f = -1) ∧ (∀ h0 S Y h, CS h0 S Y h A → fX9_rowAt (some 1) g p h = some (none, h) ∧ fX9_rowFault (some 1) g p h = some (f, h)) ∧ (inB g 0 3 = true → ∀ q0 Y q, RS q0 Y q A → fX13_rowFault (some 289) g p q = some (f, q))) ∨
    (∃ G q m r : Nat, G < 4 ∧ q < m ∧ m ≤ 6 ∧ r < 31 ∧ g = nI G ∧ p = nI q ∧ A.1 G = nI m ∧ A.2.1 (6 * G + q) = nI r ∧ inB g 0 3 = true ∧ live X A r ∧ live [] A r ∧ rwOk B (A.2.2.1 r) ∧ (∀ h0 S Y h, CS h0 S Y h A → fX9_rowAt (some 1) g p h = some (some (5 + 4 * r), h)) ∧ ∀ q0 Y k, RS q0 Y k A → fX13_rowFault (some 289) g p k = some (0, k) ∧ fX13_held (some 289) g p k = some (nI r, k)) := by
  rcases lookP w g p with ⟨f, f0, f1, f2, f3⟩ | ⟨G, q, m, hG, hq, hm, rfl, rfl, e1, hb, ho, l1, l2⟩
  · exact .inl ⟨f, f0, f1, fun h0 S Y h c => (f2 h0 S Y h c).2.2, fun hb q0 Y q r => (f3 hb q0 Y q r).2⟩
  · have neg : ∀ {x : Int32}, A.2.1 (6 * G + q) = x → x < 0 → ∃ f : Int32, f < 0 ∧ (inB (nI G) 0 3 = false → f = -1) ∧ (∀ h0 S Y h, CS h0 S Y h A → fX9_rowAt (some 1) (nI G) (nI q) h = some (none, h) ∧ fX9_rowFault (some 1) (nI G) (nI q) h = some (f, h)) ∧ (inB (nI G) 0 3 = true → ∀ q0 Y k, RS q0 Y k A → fX13_rowFault (some 289) (nI G) (nI q) k = some (f, k)) := fun {x} hx hx0 => by
      refine ⟨if x = -14 then -4 else -5, by split <;> decide, fun hc => (by rw [hb] at hc; cases hc), fun h0 S Y h c => ⟨?_, ?_⟩, fun _ q0 Y k r => ?_⟩
      · exact rowAt_no c.1 hG hm (by rw [c.pl hG, e1]) hq (by rw [c.hd (by omega), hx]; exact hx0)
      · rw [rowFault_in c.1 hG hm (by rw [c.pl hG, e1]) hq, c.hd (by omega), hx]
      · rw [rowFault_rIn r.1 hG hm (by rw [r.pl hG, e1]) hq, r.hd (by omega), hx]
        rw [hx] at ho
        rw [hR_rf ho.hR hx0]
    rcases ho with h | h | h | ⟨r, hr, h⟩
    · exact .inl (neg h (by decide))
    · exact .inl (neg h (by decide))
    · exact .inl (neg h (by decide))
    · have hl : live X A r := .inr ⟨6 * G + q, by omega, h⟩
      refine .inr ⟨G, q, m, r, hG, hq, hm, hr, rfl, rfl, e1, h, hb, hl, .inr ⟨6 * G + q, by omega, h⟩, w.2.2.2 r hr hl, fun h0 S Y k c => ?_, fun q0 Y k rs => ⟨?_, ?_⟩⟩
      · exact rowAt_yes c.1 hG hm (by rw [c.pl hG, e1]) hq hr (by rw [c.hd (by omega), h])
      · rw [rowFault_rIn rs.1 hG hm (by rw [rs.pl hG, e1]) hq, rs.hd (by omega), h, rc_nI hr, (by decide +kernel : ∀ r, r < 31 → rfR (nI r) = 0) r hr]
      · rw [(l2 q0 Y k rs).2, h, rc_nI hr]
/-- a loop by what holds before each turn -/
theorem it_inv {σ ρ : Type} {f : σ → dnM (σ ⊕ ρ)} {Q : ρ → dnH → Prop} (I : Nat → σ → dnH → Prop) : ∀ (N n : Nat) (i : Nat), i ≤ N → N - i < n → (∀ j s h, j < N → I j s h → (∃ s2 h2, f s h = some (.inl s2, h2) ∧ I (j + 1) s2 h2) ∨ ∃ q h2, f s h = some (.inr q, h2) ∧ Q q h2) → (∀ s h, I N s h → ∃ q h2, f s h = some (.inr q, h2) ∧ Q q h2) → ∀ s h, I i s h → ∃ q h2, dnIt n f s h = some (q, h2) ∧ Q q h2 := by
  intro N n
  induction n with
  | zero => intro i hi hn; omega
  | succ n ih =>
    intro i hi hn hs he s h hI
    show ∃ q h2, dnB (f s) _ h = _ ∧ _
    by_cases c : i = N
    · subst c
      obtain ⟨q, h2, e, hq⟩ := he s h hI
      exact ⟨q, h2, by rw [dnB_some e]; rfl, hq⟩
    · rcases hs i s h (by omega) hI with ⟨s2, h2, e, hI2⟩ | ⟨q, h2, e, hq⟩
      · obtain ⟨q, h3, e3, hq⟩ := ih (i + 1) (by omega) (by omega) hs he s2 h2 hI2
        exact ⟨q, h3, by rw [dnB_some e]; exact e3, hq⟩
      · exact ⟨q, h2, by rw [dnB_some e]; rfl, hq⟩
