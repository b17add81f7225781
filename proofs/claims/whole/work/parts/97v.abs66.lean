/-! ABS 66: plan -/
theorem fl_le {t : Nat → Nat} {n p : Nat} (hp : p ≤ n) : flO t n p ≤ n ∨ sOk t n p = true := by
  rcases step_cases (t := t) (n := n) (p := p) with ⟨-, -, s⟩ | ⟨-, ⟨j, -, -, -, -, s⟩ | ⟨-, ⟨-, -, s⟩ | ⟨-, s⟩⟩⟩
  · exact .inl (by rw [s]; exact hp)
  · exact .inl (by rw [s]; exact nP_le (p1_le hp) j)
  · exact .inl (by rw [s]; exact nP_le (p1_le hp) _)
  · exact .inr s
theorem neg20 : ∀ p, p ≤ 80 → rfd (-20 - nI p) = false ∧ (-20 - nI p) ≤ 0 := by decide +kernel
theorem rfd_k : ∀ k, k ≤ 8 → rfd (nI k) = false := by decide +kernel
theorem cnt_no {h : dnH} {a : Nat} {v : Int32} (hv : rfd v = false) : cnt h a v = h := by
  unfold cnt
  rw [hv]
  rfl
/-- the ends of a run of steps, of the class and of the reference -/
theorem run_plan {B : Nat} (hB : 16 ≤ B) (hB2 : B + 128 < 2 ^ 24) {A0 : Ab} (w0 : Wf B [] A0) {t : Nat → Nat} {n k : Nat} (hk : k ≤ 8) (hw : ∀ j, j < k → wO t n (Qs t n j) < 14) : ∃ e A v, e ≤ k ∧ Wf (B + 128) [] A ∧ (e < k → v < 0) ∧
    (∀ g, CS g sp0 [] g A0 → StK g 283 284 t n k → ∃ hx, CS g sp0 [] hx A ∧ (e = k → dnIt 1000 (fX12_plan_b21 (some 0) (nI k)) 0 g = some (.inl (), hx)) ∧ (e < k → ∃ hr, Cpd hx hr 1 129 31 ∧ dnIt 1000 (fX12_plan_b21 (some 0) (nI k)) 0 g = some (.inr v, cnt (dnSI hr 258 1 (nI e)) 288 v))) ∧
    ∀ q, RS q [] q A0 → StK q 317 318 t n k → q.2.1 289 40 = nI k → ∃ hy, RS q [] hy A ∧ (e = k → dnIt 1000 (fX13_planDeed_b22 (some 289)) 0 q = some (.inl (), hy)) ∧ (e < k → ∃ hz, Eqc (fun x => x < 291 ∨ x = 295 ∨ 299 ≤ x) hy hz ∧ VwE (vK hy 2) (vR hz) ∧ dnIt 1000 (fX13_planDeed_b22 (some 289)) 0 q = some (.inr v, dnSI hz 289 2 (nI e))) := by
  obtain ⟨V, N, hVN⟩ : ∃ (V : Nat → Ab → Int32) (N : Nat → Ab → Ab), ∀ j, j < k → ∀ A, Wf (B + 16 * j) [] A → Wf (B + 16 * (j + 1)) [] (N j A) ∧ (∀ h0 h, CS h0 sp0 [] h A → ∃ h1, cF (wO t n (Qs t n j)) (fun i => nI (nV t n (p1O t n (Qs t n j)) i)) h = some (V j A, h1) ∧ CS h0 sp0 [] h1 (N j A)) ∧ ∀ q0 q, RS q0 [] q A → ∃ q1 Y, rF (wO t n (Qs t n j)) (fun i => nI (nV t n (p1O t n (Qs t n j)) i)) q = some (V j A, q1) ∧ RS q0 Y q1 (N j A) := by
    classical
    have S : ∀ j A, ∃ p : Int32 × Ab, j < k → Wf (B + 16 * j) [] A → Wf (B + 16 * (j + 1)) [] p.2 ∧ (∀ h0 h, CS h0 sp0 [] h A → ∃ h1, cF (wO t n (Qs t n j)) (fun i => nI (nV t n (p1O t n (Qs t n j)) i)) h = some (p.1, h1) ∧ CS h0 sp0 [] h1 p.2) ∧ ∀ q0 q, RS q0 [] q A → ∃ q1 Y, rF (wO t n (Qs t n j)) (fun i => nI (nV t n (p1O t n (Qs t n j)) i)) q = some (p.1, q1) ∧ RS q0 Y q1 p.2 := fun j A => by
      by_cases hj : j < k
      · by_cases wj : Wf (B + 16 * j) [] A
        · obtain ⟨v, A2, w2, k1, k2⟩ := step_W (B := B + 16 * j) (by omega) (by omega) (hw j hj) (fun i => nI (nV t n (p1O t n (Qs t n j)) i)) A wj
          exact ⟨(v, A2), fun _ _ => ⟨w2, k1, k2⟩⟩
        · exact ⟨(0, A), fun _ hc => absurd hc wj⟩
      · exact ⟨(0, A), fun hc => absurd hc hj⟩
    exact ⟨fun j A => (Classical.choose (S j A)).1, fun j A => (Classical.choose (S j A)).2, fun j hj A hA => Classical.choose_spec (S j A) hj hA⟩
  obtain ⟨As, as0, as1⟩ : ∃ As : Nat → Ab, As 0 = A0 ∧ ∀ j, As (j + 1) = N j (As j) := ⟨fun j => Nat.rec A0 (fun j A => N j A) j, rfl, fun _ => rfl⟩
  have wA : ∀ j, j ≤ k → Wf (B + 16 * j) [] (As j) := by
    intro j
    induction j with
    | zero => intro _; rw [as0]; exact w0
    | succ j ih =>
      intro hj
      rw [as1]
      exact (hVN j (by omega) _ (ih (by omega))).1
  obtain ⟨e, e1, e2, e3⟩ := least_of (P := fun e => e = k ∨ V e (As e) < 0) k (.inl rfl)
  have cw5 : ∀ j, j < k → cnW (wO t n (Qs t n j)) ≤ 5 := fun j hj => (wfacts _ (hw j hj)).2.2.2.2.1
  -- the state that a run ends in: after the step that failed, if one did
  obtain ⟨A, hA⟩ : ∃ A, A = if e = k then As e else As (e + 1) := ⟨_, rfl⟩
  have wE : Wf (B + 128) [] A := by
    rw [hA]
    by_cases c : e = k
    · rw [if_pos c]; exact (wA e e1).mono (by omega)
    · rw [if_neg c]; exact (wA (e + 1) (by omega)).mono (by omega)
  refine ⟨e, A, V e (As e), e1, wE, fun hc => ?_, fun g cg sg => ?_, fun q rq sq q40 => ?_⟩
  · rcases e2 with e2 | e2
    · omega
    · exact e2
  · have tn : ∀ j, j < k → ∀ hc, CS g sp0 [] hc (As j) → ∃ h1, fX12_carryOut (some 0) (nI j) hc = some (V j (As j), h1) ∧ CS g sp0 [] h1 (As (j + 1)) := fun j hj hc cc => by
      have q3 : hc.2.1 283 = g.2.1 283 := (cc.2.1.2.2 283 (by unfold Pc; decide)).1
      have q4 : hc.2.1 284 = g.2.1 284 := (cc.2.1.2.2 284 (by unfold Pc; decide)).1
      obtain ⟨s1, s2⟩ := sg j hj
      obtain ⟨-, k1, -⟩ := hVN j hj _ (wA j (by omega))
      obtain ⟨h1, x1, x2⟩ := k1 g hc cc
      refine ⟨h1, ?_, by rw [as1]; exact x2⟩
      rw [carry_c (a := fun i => nI (nV t n (p1O t n (Qs t n j)) i)) cc.1 (by omega) (hw j hj) (by rw [q3]; exact s1) (fun i hi => by rw [q4]; exact s2 i hi)]
      exact x1
    have KK := it_inv (f := fX12_plan_b21 (some 0) (nI k)) (Q := fun o h2 => (e = k → o = .inl () ∧ CS g sp0 [] h2 A) ∧ (e < k → ∃ hx hr, CS g sp0 [] hx A ∧ Cpd hx hr 1 129 31 ∧ o = .inr (V e (As e)) ∧ h2 = cnt (dnSI hr 258 1 (nI e)) 288 (V e (As e)))) (fun j u hc => u = nI j ∧ CS g sp0 [] hc (As j)) e 1000 0 (by omega) (by omega) ?_ ?_ (nI 0) g ⟨rfl, by rw [as0]; exact cg⟩
    · obtain ⟨o, h2, b1, b2, b3⟩ := KK
      rw [nI_0] at b1
      by_cases c : e = k
      · obtain ⟨rfl, c2⟩ := b2 c
        exact ⟨h2, c2, fun _ => b1, fun hc => by omega⟩
      · obtain ⟨hx, hr, x1, x2, rfl, rfl⟩ := b3 (by omega)
        exact ⟨hx, x1, fun hc => absurd hc c, fun _ => ⟨hr, x2, b1⟩⟩
    · rintro j u hc hj ⟨rfl, cc⟩
      left
      have nj := e3 j hj
      have jk : j < k := by omega
      have nv : 0 ≤ V j (As j) := Int32.not_lt.mp (fun hc => nj (.inr hc))
      have ck : ¬ (nI k ≤ nI j) := fun hc => by have := (nI_leI (a := k) (b := j) (by omega) (by omega)).mp hc; omega
      obtain ⟨h1, x1, x2⟩ := tn j jk hc cc
      exact ⟨nI (j + 1), h1, by simp only [fX12_plan_b21, ck, if_false, dnB_eval, v_0 cc.1, x1, nv, if_true, dnP, nI_1], rfl, x2⟩
    · rintro u hc ⟨rfl, cc⟩
      by_cases c : e = k
      · refine ⟨.inl (), hc, by simp only [fX12_plan_b21, c, Int32.le_refl, if_true, dnP], fun _ => ⟨rfl, by rw [hA, if_pos c]; exact cc⟩, fun hc => by omega⟩
      · have ek : e < k := by omega
        have ck : ¬ (nI k ≤ nI e) := fun hc => by have := (nI_leI (a := k) (b := e) (by omega) (by omega)).mp hc; omega
        have nv : ¬ 0 ≤ V e (As e) := by
          rcases e2 with e2 | e2
          · exact absurd e2 c
          · exact Int32.not_le.mpr e2
        obtain ⟨h1, x1, x2⟩ := tn e ek hc cc
        obtain ⟨hr, y1, y2⟩ := copyFrom_st (st1 x2.1) (show StAt h1 129 from x2.1.2.2.2.1) (by omega)
        have sr := y2.1.sh x2.1
        have s2 : Sh (dnSI hr 258 1 (nI e)) := sr
        refine ⟨.inr (V e (As e)), cnt (dnSI hr 258 1 (nI e)) 288 (V e (As e)), ?_, fun hc => absurd hc c, fun _ => ⟨h1, hr, by rw [hA, if_neg c]; exact x2, y2, rfl, rfl⟩⟩
        simp only [fX12_plan_b21, ck, if_false, dnB_eval, v_0 cc.1, x1, nv, g_0_0 x2.1, g_0_1 x2.1, sv (st1 x2.1), y1, g_0_3 sr, p_258_1 sr, v_0 s2, tally_c s2, dnP]
  · have tn : ∀ j, j < k → ∀ hc, RS q [] hc (As j) → ∃ h1 Y, fX13_does (some 289) (hc.2.1 317 j) (hc.2.1 318 (5 * j)) (hc.2.1 318 (5 * j + 1)) (hc.2.1 318 (5 * j + 2)) (hc.2.1 318 (5 * j + 3)) (hc.2.1 318 (5 * j + 4)) hc = some (V j (As j), h1) ∧ RS q Y h1 (As (j + 1)) := fun j hj hc cc => by
      have q3 : hc.2.1 317 = q.2.1 317 := (cc.2.1.2.2 317 (by unfold Pr; decide)).1
      have q4 : hc.2.1 318 = q.2.1 318 := (cc.2.1.2.2 318 (by unfold Pr; decide)).1
      obtain ⟨s1, s2⟩ := sq j hj
      obtain ⟨-, -, k1⟩ := hVN j hj _ (wA j (by omega))
      obtain ⟨h1, Y, x1, x2⟩ := k1 q hc cc
      refine ⟨h1, Y, ?_, by rw [as1]; exact x2⟩
      rw [q3, q4, s1, does_r (a := fun i => nI (nV t n (p1O t n (Qs t n j)) i)) cc.1 (hw j hj) (b0 := q.2.1 318 (5 * j)) (fun hi => s2 0 hi) (fun hi => s2 1 hi) (fun hi => s2 2 hi) (fun hi => s2 3 hi) (fun hi => s2 4 hi)]
      exact x1
    have rd : ∀ j, j < 8 → ∀ hc, RS q [] hc (As j) → (dnAI (some 317) 100 (nI j) hc = some (hc.2.1 317 j, hc)) ∧ ∀ i, i < 5 → dnAI (some 318) 100 (nI (5 * j + i)) hc = some (hc.2.1 318 (5 * j + i), hc) := fun j hj hc cc => by
      refine ⟨?_, fun i hi => ?_⟩
      · rw [a_317 cc.1, dnIn_nI hj (by decide), nI_clamp (by omega)]; rfl
      · rw [a_318 cc.1, dnIn_nI (show 5 * j + i < 40 by omega) (by decide), nI_clamp (by omega)]; rfl
    have ix : ∀ j : Nat, (5 : Int32) * nI j = nI (5 * j) ∧ nI (5 * j) + 1 = nI (5 * j + 1) ∧ nI (5 * j) + 2 = nI (5 * j + 2) ∧ nI (5 * j) + 3 = nI (5 * j + 3) ∧ nI (5 * j) + 4 = nI (5 * j + 4) := fun j => ⟨by rw [show (5 : Int32) = nI 5 from rfl, nI_mul], nI_add _ 1, nI_add _ 2, nI_add _ 3, nI_add _ 4⟩
    have f40 : ∀ {hc : dnH} {Y : List Nat} {A' : Ab}, RS q Y hc A' → hc.2.1 289 40 = nI k := fun {hc Y A'} cc => (Prod.mk.inj cc.2.2.2.2.2.2).2.trans q40
    have KK := it_inv (f := fX13_planDeed_b22 (some 289)) (Q := fun o h2 => (e = k → o = .inl () ∧ RS q [] h2 A) ∧ (e < k → ∃ hy hz, RS q [] hy A ∧ Eqc (fun x => x < 291 ∨ x = 295 ∨ 299 ≤ x) hy hz ∧ VwE (vK hy 2) (vR hz) ∧ o = .inr (V e (As e)) ∧ h2 = dnSI hz 289 2 (nI e))) (fun j u hc => u = nI j ∧ RS q [] hc (As j)) e 1000 0 (by omega) (by omega) ?_ ?_ (nI 0) q ⟨rfl, by rw [as0]; exact rq⟩
    · obtain ⟨o, h2, b1, b2, b3⟩ := KK
      rw [nI_0] at b1
      by_cases c : e = k
      · obtain ⟨rfl, c2⟩ := b2 c
        exact ⟨h2, c2, fun _ => b1, fun hc => by omega⟩
      · obtain ⟨hy, hz, x1, x2, x3, rfl, rfl⟩ := b3 (by omega)
        exact ⟨hy, x1, fun hc => absurd hc c, fun _ => ⟨hz, x2, x3, b1⟩⟩
    · rintro j u hc hj ⟨rfl, cc⟩
      left
      have nj := e3 j hj
      have jk : j < k := by omega
      have nv : 0 ≤ V j (As j) := Int32.not_lt.mp (fun hc => nj (.inr hc))
      have ck : ¬ (nI k ≤ nI j) := fun hc => by have := (nI_leI (a := k) (b := j) (by omega) (by omega)).mp hc; omega
      obtain ⟨h1, Y, x1, x2⟩ := tn j jk hc cc
      obtain ⟨r1, r2⟩ := rd j (by omega) hc cc
      obtain ⟨i0, i1, i2, i3, i4⟩ := ix j
      have r20 : dnAI (some 318) 100 (nI (5 * j)) hc = some (hc.2.1 318 (5 * j), hc) := r2 0 (by decide)
      refine ⟨nI (j + 1), flI h1 295 32 0, ?_, rfl, rs_ends x2⟩
      simp only [fX13_planDeed_b22, dnB_eval, g_289_40 cc.1, f40 cc, ck, if_false, g_289_41 cc.1, r1, g_289_42 cc.1, i0, i1, i2, i3, i4, r20, r2 1 (by decide), r2 2 (by decide), r2 3 (by decide), r2 4 (by decide), v_289 cc.1, x1, v_289 x2.1, ends_r x2.1, nv, if_true, dnP, nI_1]
    · rintro u hc ⟨rfl, cc⟩
      by_cases c : e = k
      · refine ⟨.inl (), hc, by simp only [fX13_planDeed_b22, dnB_eval, g_289_40 cc.1, f40 cc, c, Int32.le_refl, if_true, dnP], fun _ => ⟨rfl, by rw [hA, if_pos c]; exact cc⟩, fun hc => by omega⟩
      · have ek : e < k := by omega
        have ck : ¬ (nI k ≤ nI e) := fun hc => by have := (nI_leI (a := k) (b := e) (by omega) (by omega)).mp hc; omega
        have nv : ¬ 0 ≤ V e (As e) := by
          rcases e2 with e2 | e2
          · exact absurd e2 c
          · exact Int32.not_le.mpr e2
        obtain ⟨h1, Y, x1, x2⟩ := tn e ek hc cc
        have x3 := rs_ends x2
        obtain ⟨r1, r2⟩ := rd e (by omega) hc cc
        obtain ⟨i0, i1, i2, i3, i4⟩ := ix e
        have r20 : dnAI (some 318) 100 (nI (5 * e)) hc = some (hc.2.1 318 (5 * e), hc) := r2 0 (by decide)
        obtain ⟨hz, y1, y2, y3⟩ := comes_r (K := 2) x3.1 (by decide)
        have y1 : fX13_comesBack (some 289) 2 (flI h1 295 32 0) = some ((), hz) := y1
        have sz := y2.sh x3.1
        refine ⟨.inr (V e (As e)), dnSI hz 289 2 (nI e), ?_, fun hc => absurd hc c, fun _ => ⟨flI h1 295 32 0, hz, by rw [hA, if_neg c]; exact x3, y2, y3, rfl, rfl⟩⟩
        simp only [fX13_planDeed_b22, dnB_eval, g_289_40 cc.1, f40 cc, ck, if_false, g_289_41 cc.1, r1, g_289_42 cc.1, i0, i1, i2, i3, i4, r20, r2 1 (by decide), r2 2 (by decide), r2 3 (by decide), r2 4 (by decide), v_289 cc.1, x1, v_289 x2.1, ends_r x2.1, nv, v_289 x3.1, y1, p_289_2 sz, dnP]
