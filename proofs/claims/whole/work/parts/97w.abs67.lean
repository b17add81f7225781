/-! ABS 67: plan, the call -/
theorem vK_eq {P : Nat → Prop} {h h2 : dnH} (e : Eqc P h h2) (p : ∀ x, 309 ≤ x → x ≤ 315 → P x) (j : Nat) : vK h2 j = vK h j := by
  unfold vK
  rw [(e.2.2 309 (p _ (by decide) (by decide))).1, (e.2.2 310 (p _ (by decide) (by decide))).1, (e.2.2 311 (p _ (by decide) (by decide))).1, (e.2.2 312 (p _ (by decide) (by decide))).1, (e.2.2 313 (p _ (by decide) (by decide))).1, (e.2.2 314 (p _ (by decide) (by decide))).2.1, (e.2.2 315 (p _ (by decide) (by decide))).2.2]
theorem call_plan {B : Nat} (hB : 16 ≤ B) (hB2 : B + 128 < 2 ^ 24) : Call B (B + 128) (fX12_plan (some 0)) (fX13_plan (some 289)) := by
  intro h a
  have hs := a.1
  obtain ⟨A0, w0, c0, r0⟩ := openA a
  have r0 := r0 h 0 Eqc.rf
  have z0 : cnt h 288 0 = h := cnt_no rfl
  rw [z0] at r0
  obtain ⟨n, hn, t1, t2, t3⟩ := a.2.2.2.2.2.2.2.2.1
  obtain ⟨t, et⟩ : ∃ t : Nat → Nat, ∀ i, t i = (h.2.1 282 i).toNatClampNeg := ⟨_, fun _ => rfl⟩
  have tx : ∀ i, i < n → h.2.1 282 i = nI (t i) ∧ h.2.1 316 i = nI (t i) ∧ t i < 256 := fun i hi => by
    obtain ⟨x, x1, x2, x3⟩ := t3 i hi
    have : t i = x := by rw [et, x2, nI_clamp (by omega)]
    rw [this]
    exact ⟨x2, x3, x1⟩
  have ht : ∀ i, i < n → t i < 256 := fun i hi => (tx i hi).2.2
  have X : Tx h t n := ⟨t1, fun i hi => (tx i hi).1⟩
  have RX : RTx h t n := ⟨t2, fun i hi => (tx i hi).2.1⟩
  obtain ⟨k, hk, kE, kL⟩ := least_of (P := fun k => n ≤ Qs t n k ∨ k = 8 ∨ sOk t n (Qs t n k) = false) 8 (.inr (.inl rfl))
  have hj : ∀ j, j < k → Qs t n j < n ∧ sOk t n (Qs t n j) = true := fun j hj => by
    have := kL j hj
    refine ⟨Nat.lt_of_not_le (fun hc => this (.inl hc)), ?_⟩
    cases hh : sOk t n (Qs t n j) with
    | true => rfl
    | false => exact absurd (.inr (.inr hh)) this
  have hw : ∀ j, j < k → wO t n (Qs t n j) < 14 := fun j hj' => by
    rcases step_cases (t := t) (n := n) (p := Qs t n j) with ⟨-, s1, -⟩ | ⟨q, -⟩
    · rw [(hj j hj').2] at s1; cases s1
    · exact q
  have qk := Qs_le hj k (Nat.le_refl _)
  obtain ⟨g1, p1, e1, st⟩ := parse_c hs X hn ht hk hj kE
  have s1 := e1.sh hs
  obtain ⟨g2, p2, cp⟩ := copyFrom_st (show StAt g1 129 from s1.2.2.2.1) (st1 s1) (by omega)
  have s2 := cp.1.sh s1
  have E2 : Eqc (fun x => (x ≤ 129 ∨ 257 ≤ x) ∧ x ≠ 283 ∧ x ≠ 284) h g2 := (e1.im (fun x hx => hx.2)).tr (cp.1.im (fun x hx => hx.1))
  have head : ∀ v h2, (match dnIt 1000 (fX12_plan_b21 (some 0) (pv t n k)) 0 g2 with | none => none | some q => (Sum.elim (fun _ => dnP (pv t n k)) (fun v_ => dnP v_) q.1 : dnM Int32) q.2) = some (v, h2) → fX12_plan (some 0) h = some (v, h2) := fun v h2 e => by
    rw [← e]
    simp only [fX12_plan, dnB_eval, g_0_9 hs, v_281 hs, p1, g_0_1 s1, g_0_0 s1, sv (show StAt g1 129 from s1.2.2.2.1), p2]
    cases dnIt 1000 (fX12_plan_b21 (some 0) (pv t n k)) 0 g2 <;> rfl
  have a8 := a.2.2.2.2.2.2.2.1
  by_cases c : n ≤ Qs t n k
  case neg =>
    obtain ⟨pos, pn, ep⟩ : ∃ pos, pos ≤ 80 ∧ pv t n k = -20 - nI pos := by
      unfold pv
      rw [if_neg c]
      by_cases c8 : k = 8
      · exact ⟨Qs t n k, by omega, by rw [if_pos c8]⟩
      · refine ⟨flO t n (Qs t n k), ?_, by rw [if_neg c8]⟩
        have sf : sOk t n (Qs t n k) = false := by
          rcases kE with h | h | h
          · exact absurd h c
          · exact absurd h c8
          · exact h
        rcases fl_le (t := t) qk with h | h
        · omega
        · rw [sf] at h; cases h
    obtain ⟨nf, nl⟩ := neg20 pos pn
    rw [← ep] at nf nl
    have RX2 : RTx g2 t n := by
      refine ⟨by rw [(E2.2.2 289 (by decide)).1]; exact RX.1, fun i hi => ?_⟩
      rw [(E2.2.2 316 (by decide)).1]
      exact RX.2 i hi
    obtain ⟨r1, x1, x2, x3, x4⟩ := reads_r s2 RX2 hn ht hk hj kE
    rw [decide_eq_false c] at x1
    have x4 := x4 c
    have sr := x2.1.sh s2
    refine ⟨pv t n k, g2, flI (cnt r1 290 (pv t n k)) 295 32 0, head _ _ ?_, ?_, ?_⟩
    · have := dnIt_run (f := fX12_plan_b21 (some 0) (pv t n k)) (q := .inl ()) (hq := g2) 0 1000 (fun _ => ((0 : Int32), g2)) (by decide) (fun i hi => by omega) (by simp only [fX12_plan_b21, nl, if_true, dnP])
      have this : dnIt 1000 (fX12_plan_b21 (some 0) (pv t n k)) 0 g2 = some (.inl (), g2) := this
      rw [this]
      rfl
    · have pd : fX13_planDeed (some 289) g2 = some (pv t n k, r1) := by
        simp only [fX13_planDeed, dnB_eval, v_289 s2, x1, Bool.false_eq_true, if_false, g_289_38 sr, x4, dnP]
      simp only [fX13_plan, dnB_eval, v_289 s2, pd, v_289 sr, said_r sr, dnP]
    · have EA : Eqc (fun x => x ≠ 289 ∧ x ≠ 317 ∧ x ≠ 318) g2 r1 := x2.1
      refine plan_close a (by omega) (E2.im (fun x hx => by omega)) (EA.im (fun x hx => by omega)) (fun j _ => by rw [(EA.2.2 308 (by decide)).1]) (fun j _ => by rw [vK_eq EA (fun x h1 h2 => by omega)]; exact vwe_rf) (x2.2.1 37 (by decide) (by decide) (by decide)) (x2.2.1 43 (by decide) (by decide) (by decide)) ?_ (fun r hr => ?_) (fun p hp => ?_) ?_ (fun i hi => ?_)
      · exact (stRel_cg a.2.2.2.2.2.1 (vwe_S (fun x h1 h2 => E2.2.2 x (by omega))) (vwe_R (fun x h1 h2 => ⟨(EA.2.2 x (by omega)).1.trans (E2.2.2 x (by omega)).1, (EA.2.2 x (by omega)).2.1.trans (E2.2.2 x (by omega)).2.1, (EA.2.2 x (by omega)).2.2.trans (E2.2.2 x (by omega)).2.2⟩))).mono (by omega)
      · rw [(E2.2.2 (5 + 4 * r) (by omega)).1]; exact a.2.2.1 r hr
      · rw [(E2.2.2 3 (by decide)).1]; exact a.2.2.2.1 p hp
      · rw [x2.2.2.1, x2.2.1 2 (by decide) (by decide) (by decide), x2.2.1 3 (by decide) (by decide) (by decide), (E2.2.2 289 (by decide)).1, (E2.2.2 289 (by decide)).2.1, (E2.2.2 258 (by decide)).1, (E2.2.2 258 (by decide)).2.1]
        exact a.2.2.2.2.2.2.1
      · rw [cnt_no nf, (EA.2.2 290 (by decide)).1, (E2.2.2 290 (by decide)).1, (E2.2.2 288 (by decide)).1]
        exact a8 i hi
  have ek : pv t n k = nI k := by unfold pv; rw [if_pos c]
  rw [ek] at head
  have st2 : StK g2 283 284 t n k := fun j hj => by
    rw [(cp.1.2.2 283 (by omega)).1, (cp.1.2.2 284 (by omega)).1]
    exact st c j hj
  have cg : CS g2 sp0 [] g2 A0 := cs_base c0 (E2.im (fun x hx => by omega))
  obtain ⟨e, A, v, eke, wE, vneg, cls, ref⟩ := run_plan (t := t) (n := n) (k := k) hB hB2 w0 hk hw
  obtain ⟨hx, cx, cxe, cxf⟩ := cls g2 cg st2
  -- the reference, from a heap whose own cells are as they were
  have REF : ∀ gc, Eqc (fun x => x = 257 ∨ (281 ≤ x ∧ x ≠ 283 ∧ x ≠ 284 ∧ x ≠ 288)) h gc → ∃ r1 r2, Sh r1 ∧ Sh r2 ∧ fX13_reads (some 289) gc = some (true, r1) ∧ fX13_keeps (some 289) 2 r1 = some ((), r2) ∧ RS r2 [] r2 A0 ∧ StK r2 317 318 t n k ∧ r2.2.1 289 40 = nI k ∧ Eqc (fun x => x ≠ 289 ∧ x ≠ 317 ∧ x ≠ 318 ∧ (x < 308 ∨ 316 ≤ x)) gc r2 ∧ (∀ j, j < 2 → r2.2.1 308 j = gc.2.1 308 j) ∧ (∀ j, j < 2 → VwE (vK gc j) (vK r2 j)) ∧ VwE (vR h) (vK r2 2) ∧ r2.2.1 289 37 = gc.2.1 289 37 ∧ r2.2.1 289 43 = gc.2.1 289 43 := fun gc ec => by
    have sc := ec.sh hs
    have RX2 : RTx gc t n := by
      refine ⟨by rw [(ec.2.2 289 (by decide)).1]; exact RX.1, fun i hi => ?_⟩
      rw [(ec.2.2 316 (by decide)).1]
      exact RX.2 i hi
    obtain ⟨r1, x1, x2, x3, x4⟩ := reads_r sc RX2 hn ht hk hj kE
    rw [decide_eq_true c] at x1
    obtain ⟨x3, x5⟩ := x3 c
    have sr := x2.1.sh sc
    obtain ⟨r2, y1, y2, y3, y4, y5, y6⟩ := keeps_r (K := 2) sr (by decide)
    have y1 : fX13_keeps (some 289) 2 r1 = some ((), r2) := y1
    have s9 : r2.2.1 289 = r1.2.1 289 := (y2.2.2 289 (by decide)).1
    have l9 : r2.2.2.1 289 = r1.2.2.1 289 := (y2.2.2 289 (by decide)).2.1
    have hr1 : ∀ x, 291 ≤ x → x ≤ 298 → r1.2.1 x = h.2.1 x ∧ r1.2.2.1 x = h.2.2.1 x ∧ r1.2.2.2.1 x = h.2.2.2.1 x := fun x h1 h2 => by
      obtain ⟨u1, u2, u3⟩ := x2.1.2.2 x (by omega)
      obtain ⟨v1, v2, v3⟩ := ec.2.2 x (by omega)
      exact ⟨u1.trans v1, u2.trans v2, u3.trans v3⟩
    have er : Eqc (fun x => 291 ≤ x ∧ x ≤ 298) h r2 := ((ec.im (fun x hx => by omega)).tr (x2.1.im (fun x hx => by omega))).tr (y2.im (fun x hx => by omega))
    refine ⟨r1, r2, sr, y2.sh sr, x1, y1, rs_base r0 er ?_ ?_ ?_, fun j hj => ?_, by rw [s9]; exact x5, (x2.1.im (fun x hx => by omega)).tr (y2.im (fun x hx => by omega)), fun j hj => ?_, fun j hj => ?_, (vwe_R hr1).tr y5, ?_, ?_⟩
    · rw [l9, x2.2.2.1, (ec.2.2 289 (by decide)).2.1]
    · rw [s9, x2.2.1 2 (by decide) (by decide) (by decide), (ec.2.2 289 (by decide)).1]
    · rw [s9, x2.2.1 3 (by decide) (by decide) (by decide), (ec.2.2 289 (by decide)).1]
    · rw [(y2.2.2 317 (by decide)).1, (y2.2.2 318 (by decide)).1]
      exact x3 j hj
    · rw [y4 j (by omega), (x2.1.2.2 308 (by decide)).1]
    · have : vK r1 j = vK gc j := vK_eq x2.1 (fun x h1 h2 => by omega) j
      rw [← this]
      exact y6 j (by omega)
    · rw [s9, x2.2.1 37 (by decide) (by decide) (by decide)]
    · rw [s9, x2.2.1 43 (by decide) (by decide) (by decide)]
  have EX : Eqc (fun x => x = 257 ∨ (281 ≤ x ∧ x ≠ 283 ∧ x ≠ 284)) h hx := (E2.im (fun x hx => by omega)).tr (cx.2.1.im (fun x hx => by unfold Pc; omega))
  by_cases ce : e = k
  · have b1 := cxe ce
    obtain ⟨r1, r2, sr1, sr2, x1, x2, x3, x4, x5, x6, x7, x8, x9, x10, x11⟩ := REF hx (EX.im (fun x hx => by omega))
    obtain ⟨hy, ry, rye, -⟩ := ref r2 x3 x4 x5
    have b2 := rye ce
    have f40 : hy.2.1 289 40 = nI k := (Prod.mk.inj ry.2.2.2.2.2.2).2.trans x5
    have EY : Eqc (fun x => x ≤ 288 ∨ x = 290 ∨ x = 316 ∨ 319 ≤ x) hx hy := (x6.im (fun x hx => by omega)).tr (ry.2.1.im (fun x hx => by unfold Pr; omega))
    refine ⟨nI k, hx, flI (cnt hy 290 (nI k)) 295 32 0, head _ _ (by rw [b1]; rfl), ?_, ?_⟩
    · have pd : fX13_planDeed (some 289) hx = some (nI k, hy) := by
        simp only [fX13_planDeed, dnB_eval, v_289 cx.1, x1, if_true, v_289 sr1, x2, b2, Sum.elim_inl, g_289_40 ry.1, f40, dnP]
      simp only [fX13_plan, dnB_eval, v_289 cx.1, pd, v_289 ry.1, said_r ry.1, dnP]
    · refine plan_close a (by omega) (EX.im (fun x hx => by omega)) EY (fun j hj => ?_) (fun j hj => ?_) (by rw [ry.2.2.2.2.2.1]; exact x10) (by rw [(Prod.mk.inj ry.2.2.2.2.2.2).1]; exact x11) (abs_st wE cx.2.2.2.2.1 ry.2.2.2.1) cx.2.2.1 (fun p hp => cx.2.2.2.1 p hp) ?_ (fun i hi => ?_)
      · rw [(ry.2.1.2.2 308 (by unfold Pr; decide)).1]; exact x7 j hj
      · rw [vK_eq ry.2.1 (fun x h1 h2 => by unfold Pr; omega)]; exact x8 j hj
      · obtain ⟨n1, n2, n3⟩ := cx.2.2.2.2.2
        obtain ⟨m1, m2, m3⟩ := ry.2.2.2.2.1
        exact ⟨n1.trans m1.symm, n2.trans m2.symm, n3.trans m3.symm⟩
      · rw [cnt_no (rfd_k k hk), (EY.2.2 290 (by omega)).1, (EX.2.2 290 (by omega)).1, (EX.2.2 288 (by omega)).1]
        exact a8 i hi
  · have ek' : e < k := by omega
    obtain ⟨hr, cr, b1⟩ := cxf ek'
    obtain ⟨gc, egc⟩ : ∃ gc, gc = cnt (dnSI hr 258 1 (nI e)) 288 v := ⟨_, rfl⟩
    rw [← egc] at b1
    have Ec : Eqc (fun x => x ≠ 288) (dnSI hr 258 1 (nI e)) gc := by rw [egc]; exact eqc_cnt (fun hc => hc rfl)
    have Es : Eqc (fun x => x ≠ 258) hr (dnSI hr 258 1 (nI e)) := eqc_SI (fun hc => hc rfl)
    have Eg : Eqc (fun x => x ≠ 258 ∧ x ≠ 288) hr gc := (Es.im (fun x hx => hx.1)).tr (Ec.im (fun x hx => hx.2))
    have Exg : Eqc (fun x => (x ≤ 1 ∨ 129 ≤ x) ∧ x ≠ 258 ∧ x ≠ 288) hx gc := (cr.1.im (fun x hx => by omega)).tr (Eg.im (fun x hx => by omega))
    have EG : Eqc (fun x => x = 257 ∨ (281 ≤ x ∧ x ≠ 283 ∧ x ≠ 284 ∧ x ≠ 288)) h gc := (EX.im (fun x hx => by omega)).tr (Exg.im (fun x hx => by omega))
    have sgc := EG.sh hs
    obtain ⟨r1, r2, sr1, sr2, x1, x2, x3, x4, x5, x6, x7, x8, x9, x10, x11⟩ := REF gc EG
    obtain ⟨hy, ry, -, ryf⟩ := ref r2 x3 x4 x5
    obtain ⟨hz, z1, z2, b2⟩ := ryf ek'
    have sz := z1.sh ry.1
    obtain ⟨gr, egr⟩ : ∃ gr, gr = dnSI hz 289 2 (nI e) := ⟨_, rfl⟩
    rw [← egr] at b2
    have Ez : Eqc (fun x => x ≠ 289) hz gr := by rw [egr]; exact eqc_SI (fun hc => hc rfl)
    have sgr := Ez.sh sz
    have EY : Eqc (fun x => x ≤ 288 ∨ x = 290 ∨ x = 316 ∨ 319 ≤ x) gc gr := (((x6.im (fun x hx => by omega)).tr (ry.2.1.im (fun x hx => by unfold Pr; omega))).tr (z1.im (fun x hx => by omega))).tr (Ez.im (fun x hx => by omega))
    have Eyz : Eqc (fun x => 299 ≤ x) hy gr := (z1.im (fun x hx => by omega)).tr (Ez.im (fun x hx => by omega))
    have g9 : ∀ q, q ≠ 2 → gr.2.1 289 q = hy.2.1 289 q := fun q hq => by
      have : gr.2.1 289 q = hz.2.1 289 q := by rw [egr]; simp [dnSI, dnUp, hq]
      rw [this, (z1.2.2 289 (by omega)).1]
    have gl9 : gr.2.2.1 289 = hy.2.2.1 289 := by
      have : gr.2.2.1 289 = hz.2.2.1 289 := by rw [egr]; rfl
      rw [this, (z1.2.2 289 (by omega)).2.1]
    refine ⟨v, gc, flI (cnt gr 290 v) 295 32 0, head _ _ (by rw [b1]; rfl), ?_, ?_⟩
    · have pd : fX13_planDeed (some 289) gc = some (v, gr) := by
        simp only [fX13_planDeed, dnB_eval, v_289 sgc, x1, if_true, v_289 sr1, x2, b2, Sum.elim_inr, dnP]
      simp only [fX13_plan, dnB_eval, v_289 sgc, pd, v_289 sgr, said_r sgr, dnP]
    · have V1 : VwE (vS h 1) (vS gc 1) := ((((vwe_S (s := 1) (fun x h1 h2 => e1.2.2 x (by omega))).tr cp.vwe).tr (vwe_S (s := 129) (fun x h1 h2 => cx.2.1.2.2 x (by unfold Pc; omega)))).tr cr.vwe).tr (vwe_S (s := 1) (fun x h1 h2 => Eg.2.2 x (by omega)))
      have V2 : VwE (vR h) (vR gr) := by
        have q1 : vK hy 2 = vK r2 2 := vK_eq ry.2.1 (fun x h1 h2 => by unfold Pr; omega) 2
        rw [q1] at z2
        exact (x9.tr z2).tr (vwe_R (fun x h1 h2 => Ez.2.2 x (by omega)))
      refine plan_close a (by omega) EG EY (fun j hj => ?_) (fun j hj => ?_) (by rw [g9 37 (by decide), ry.2.2.2.2.2.1]; exact x10) (by rw [g9 43 (by decide), (Prod.mk.inj ry.2.2.2.2.2.2).1]; exact x11) ((stRel_cg a.2.2.2.2.2.1 V1 V2).mono (by omega)) (fun r hr' => ?_) (fun p hp => ?_) ?_ (fun i hi => ?_)
      · rw [(Eyz.2.2 308 (by omega)).1, (ry.2.1.2.2 308 (by unfold Pr; decide)).1]; exact x7 j hj
      · rw [vK_eq Eyz (fun x h1 h2 => by omega), vK_eq ry.2.1 (fun x h1 h2 => by unfold Pr; omega)]; exact x8 j hj
      · have q1 := cr.2.1 r hr'
        rw [show 1 + 4 + 4 * r = 5 + 4 * r by omega] at q1
        rw [(Eg.2.2 (5 + 4 * r) (by omega)).1, q1]
        exact cx.2.2.1 r hr'
      · have q1 : hr.2.1 3 (24 + p) = hx.2.1 131 (24 + p) := cr.2.2.2.1 (24 + p) (by omega)
        have q2 : g2.2.1 131 (24 + p) = g1.2.1 3 (24 + p) := cp.2.2.2.1 (24 + p) (by omega)
        rw [(Eg.2.2 3 (by omega)).1, q1, (cx.2.1.2.2 131 (by unfold Pc; decide)).1, q2, (e1.2.2 3 (by decide)).1]
        exact a.2.2.2.1 p hp
      · obtain ⟨n1, n2, n3⟩ := cx.2.2.2.2.2
        obtain ⟨m1, m2, m3⟩ := ry.2.2.2.2.1
        have c8 : gc.2.2.1 258 0 = hx.2.2.1 258 0 := by
          rw [(Ec.2.2 258 (by decide)).2.1]
          show hr.2.2.1 258 0 = _
          rw [(cr.1.2.2 258 (by omega)).2.1]
        have c81 : gc.2.1 258 1 = nI e := by
          rw [(Ec.2.2 258 (by decide)).1]
          simp [dnSI, dnUp]
        have c82 : gc.2.1 258 2 = hx.2.1 258 2 := by
          rw [(Ec.2.2 258 (by decide)).1]
          have : (dnSI hr 258 1 (nI e)).2.1 258 2 = hr.2.1 258 2 := by simp [dnSI, dnUp]
          rw [this, (cr.1.2.2 258 (by omega)).1]
        refine ⟨?_, ?_, ?_⟩
        · rw [c8, gl9]; exact n1.trans m1.symm
        · rw [c81, egr]; simp [dnSI, dnUp]
        · rw [c82, g9 3 (by decide)]; exact n3.trans m3.symm
      · rw [egc]
        have eqj : ∀ j, j < 11 → (dnSI hr 258 1 (nI e)).2.1 288 j = gr.2.1 290 j := fun j hj => by
          rw [(Es.2.2 288 (by decide)).1, (cr.1.2.2 288 (by omega)).1, (EX.2.2 288 (by omega)).1, (EY.2.2 290 (by omega)).1, (EG.2.2 290 (by omega)).1]
          exact a8 j hj
        exact cnt_at (eqj i hi) eqj
