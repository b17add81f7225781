/-! ABS 11: notes; read -/
theorem CS.told {h0 h : dnH} {S : Nat → Int32} {X : List Nat} {A : Ab} (c : CS h0 S X h A) (v : Int64) : CS h0 S X (dnSL h 258 0 v) (setN A (v, A.2.2.2.2)) := by
  have := c.note (h2 := dnSL h 258 0 v) (eqc_SL (fun hc => hc rfl))
  obtain ⟨n1, n2, n3⟩ := c.2.2.2.2.2
  have e : ((dnSL h 258 0 v).2.2.1 258 0, (dnSL h 258 0 v).2.1 258 1, (dnSL h 258 0 v).2.1 258 2) = (v, A.2.2.2.2) := by
    show (dnUp h.2.2.1 258 0 v 258 0, h.2.1 258 1, h.2.1 258 2) = _
    rw [dnUp_eq, n2, n3]
  rw [e] at this
  exact this
theorem CS.first {h0 h : dnH} {S : Nat → Int32} {X : List Nat} {A : Ab} (c : CS h0 S X h A) (v : Int32) : CS h0 S X (dnSI h 258 1 v) (setN A (A.2.2.2.1, v, A.2.2.2.2.2)) := by
  have := c.note (h2 := dnSI h 258 1 v) (eqc_SI (fun hc => hc rfl))
  obtain ⟨n1, n2, n3⟩ := c.2.2.2.2.2
  have e : ((dnSI h 258 1 v).2.2.1 258 0, (dnSI h 258 1 v).2.1 258 1, (dnSI h 258 1 v).2.1 258 2) = (A.2.2.2.1, v, A.2.2.2.2.2) := by
    show (h.2.2.1 258 0, dnUp h.2.1 258 1 v 258 1, dnUp h.2.1 258 1 v 258 2) = _
    rw [dnUp_eq, dnUp_neK (by decide), n1, n3]
  rw [e] at this
  exact this
theorem CS.passed {h0 h : dnH} {S : Nat → Int32} {X : List Nat} {A : Ab} (c : CS h0 S X h A) (v : Int32) : CS h0 S X (dnSI h 258 2 v) (setN A (A.2.2.2.1, A.2.2.2.2.1, v)) := by
  have := c.note (h2 := dnSI h 258 2 v) (eqc_SI (fun hc => hc rfl))
  obtain ⟨n1, n2, n3⟩ := c.2.2.2.2.2
  have e : ((dnSI h 258 2 v).2.2.1 258 0, (dnSI h 258 2 v).2.1 258 1, (dnSI h 258 2 v).2.1 258 2) = (A.2.2.2.1, A.2.2.2.2.1, v) := by
    show (h.2.2.1 258 0, dnUp h.2.1 258 2 v 258 1, dnUp h.2.1 258 2 v 258 2) = _
    rw [dnUp_eq, dnUp_neK (by decide), n1, n2]
  rw [e] at this
  exact this
theorem RS.told {h0 h : dnH} {X : List Nat} {A : Ab} (c : RS h0 X h A) (v : Int64) : RS h0 X (dnSL h 289 1 v) (setN A (v, A.2.2.2.2)) := by
  have := c.note (h2 := dnSL h 289 1 v) (eqc_SL (by unfold Pn; decide)) rfl rfl
  obtain ⟨n1, n2, n3⟩ := c.2.2.2.2.1
  have e : ((dnSL h 289 1 v).2.2.1 289 1, (dnSL h 289 1 v).2.1 289 2, (dnSL h 289 1 v).2.1 289 3) = (v, A.2.2.2.2) := by
    show (dnUp h.2.2.1 289 1 v 289 1, h.2.1 289 2, h.2.1 289 3) = _
    rw [dnUp_eq, n2, n3]
  rw [e] at this
  exact this
theorem RS.first {h0 h : dnH} {X : List Nat} {A : Ab} (c : RS h0 X h A) (v : Int32) : RS h0 X (dnSI h 289 2 v) (setN A (A.2.2.2.1, v, A.2.2.2.2.2)) := by
  have := c.note (h2 := dnSI h 289 2 v) (eqc_SI (by unfold Pn; decide)) (show dnUp h.2.1 289 2 v 289 37 = h.2.1 289 37 from dnUp_neK (by decide)) (by simp [dnSI, dnUp])
  obtain ⟨n1, n2, n3⟩ := c.2.2.2.2.1
  have e : ((dnSI h 289 2 v).2.2.1 289 1, (dnSI h 289 2 v).2.1 289 2, (dnSI h 289 2 v).2.1 289 3) = (A.2.2.2.1, v, A.2.2.2.2.2) := by
    show (h.2.2.1 289 1, dnUp h.2.1 289 2 v 289 2, dnUp h.2.1 289 2 v 289 3) = _
    rw [dnUp_eq, dnUp_neK (by decide), n1, n3]
  rw [e] at this
  exact this
theorem RS.passed {h0 h : dnH} {X : List Nat} {A : Ab} (c : RS h0 X h A) (v : Int32) : RS h0 X (dnSI h 289 3 v) (setN A (A.2.2.2.1, A.2.2.2.2.1, v)) := by
  have := c.note (h2 := dnSI h 289 3 v) (eqc_SI (by unfold Pn; decide)) (show dnUp h.2.1 289 3 v 289 37 = h.2.1 289 37 from dnUp_neK (by decide)) (by simp [dnSI, dnUp])
  obtain ⟨n1, n2, n3⟩ := c.2.2.2.2.1
  have e : ((dnSI h 289 3 v).2.2.1 289 1, (dnSI h 289 3 v).2.1 289 2, (dnSI h 289 3 v).2.1 289 3) = (A.2.2.2.1, A.2.2.2.2.1, v) := by
    show (h.2.2.1 289 1, dnUp h.2.1 289 3 v 289 2, dnUp h.2.1 289 3 v 289 3) = _
    rw [dnUp_eq, dnUp_neK (by decide), n1, n2]
  rw [e] at this
  exact this
theorem Wf.note {B : Nat} {X : List Nat} {A : Ab} {N : Int64 × Int32 × Int32} (w : Wf B X A) : Wf B X (setN A N) := ⟨w.1, w.2.1, w.2.2.1, w.2.2.2⟩
theorem tells_A {h0 h : dnH} {X : List Nat} {A : Ab} (c : RS h0 X h A) (v : Int64) (x : Int32) : fX13_tells (some 289) v x h = some (x, dnSL h 289 1 v) ∧ RS h0 X (dnSL h 289 1 v) (setN A (v, A.2.2.2.2)) := ⟨by simp only [fX13_tells, dnB_eval, p_289_1 c.1, dnP], c.told v⟩
def codeOf (c : Cel) : Int64 := if isRlN c.1 then FP.d2l (FP.dmul 4620693217682128896 c.2.2) else c.2.1
theorem code_ok {B : Nat} {c : Cel} (h : valOk B c.1 c.2.1 c.2.2) : isRlN c.1 = true → ok64 (FP.dmul 4620693217682128896 c.2.2) := fun hq => by
  have : c.1 = 6 ∨ c.1 = 7 := by simpa [isRlN] using hq
  rcases this with e | e
  · exact (h.2.2.2.2.2.1 e).db.mul8
  · exact (h.2.2.2.2.2.2 e).mul8
theorem codeAt_A {B : Nat} {h : dnH} {a i : Nat} {R : Rw} (ha : RowAt h a) (hR : RwH h a R) (hi : i < 12) (hs : (R.2.2 i).1 < 12) (hv : valOk B (R.2.2 i).1 (R.2.2 i).2.1 (R.2.2 i).2.2) : fX5_codeAt (some a) (nI i) h = some (codeOf (R.2.2 i), h) := by
  obtain ⟨r1, r2, r3⟩ := hR.2.2 i hi
  have := codeAt_c ha hi r1 hs (by rw [r3]; exact code_ok hv)
  rw [r2, r3] at this
  exact this
theorem toldOf_A {B : Nat} {h : dnH} {c : Cel} (hh : Sh h) (hx : hv h c) (hs : c.1 < 12) (ok : valOk B c.1 c.2.1 c.2.2) : fX13_toldOf (some 289) h = some (codeOf c, h) := by
  obtain ⟨x1, x2, x3⟩ := hx
  have := toldOf_r hh x1 hs (by rw [x3]; exact code_ok ok)
  rw [x2, x3] at this
  exact this
theorem cvt8 (c : Cel) : cvt 8 c = c := rfl
theorem isReadable_A {h0 h : dnH} {X : List Nat} {A : Ab} {r a : Nat} (c : RS h0 X h A) (hr : r < 31) (hl : live X A r) (hkd : (A.2.2.1 r).1 < 12) (ha : a < 12) : fX13_isReadable (some 289) (nI r) (nI a) h = some (decide ((A.2.2.1 r).1 < 8) && tk a (A.2.2.1 r).1, h) := by
  simp only [fX13_isReadable, dnB_eval, g_289_6 c.1, kind_A c hr hl, r_isPlain, plain_nI hkd, dnP, takesR ha hkd]
  by_cases h8 : (A.2.2.1 r).1 < 8
  · simp only [h8, decide_true, if_true, dnB_eval, g_289_6 c.1, kind_A c hr hl, takesR ha hkd, dnP, Bool.true_and]
    cases tk a (A.2.2.1 r).1 <;> rfl
  · simp only [h8, decide_false, Bool.false_eq_true, if_false, dnP, Bool.false_and]
theorem step_read {B : Nat} (hB : 16 ≤ B) (g p i s : Int32) : Step B B (fX6_readCell (some 259) g p i s) (fX13_readAnswer (some 289) g p i s) := by
  intro A w
  cases hg : inB g 0 3
  · exact step_ro (-1) w (fun h0 h c => by simp only [fX6_readCell, hg, dnB_eval, c_isGrid, c_isKind, c_isSort, c_isPlain, r_isGrid, r_isKind, r_isSort, r_isPlain, r_in, dnP, Bool.false_eq_true, if_false, if_true]) (fun q0 q r => by simp only [fX13_readAnswer, hg, dnB_eval, c_isGrid, c_isKind, c_isSort, c_isPlain, r_isGrid, r_isKind, r_isSort, r_isPlain, r_in, dnP, Bool.false_eq_true, if_false, if_true])
  cases hk : inB s 0 8
  · have h1 : ¬ (0 ≤ s ∧ s ≤ 8) := of_decide_eq_false hk
    refine step_ro (-1) w (fun h0 h c => ?_) (fun q0 q r => by simp only [fX13_readAnswer, hg, hk, dnB_eval, c_isGrid, c_isKind, c_isSort, c_isPlain, r_isGrid, r_isKind, r_isSort, r_isPlain, r_in, dnP, Bool.false_eq_true, if_false, if_true])
    by_cases c0 : s < 0
    · simp only [fX6_readCell, hg, c0, dnB_eval, c_isGrid, c_isKind, c_isSort, c_isPlain, r_isGrid, r_isKind, r_isSort, r_isPlain, r_in, dnP, Bool.false_eq_true, if_false, if_true]
    · have c2 : ¬ s ≤ 8 := fun hc => h1 ⟨Int32.not_lt.mp c0, hc⟩
      simp only [fX6_readCell, hg, c0, c2, dnB_eval, c_isGrid, c_isKind, c_isSort, c_isPlain, r_isGrid, r_isKind, r_isSort, r_isPlain, r_in, dnP, Bool.false_eq_true, if_false, if_true]
  obtain ⟨a, ha, rfl⟩ := inB_of (n := 8) (by decide) hk
  have x0 : ¬ nI a < 0 := nI_pos (by omega)
  have x8 : nI a ≤ 8 := (of_decide_eq_true hk).2
  rcases lookC w g p i with ⟨f, f0, -, f2, f3⟩ | ⟨G, q, m, r, hG, hq, hm, hr, rfl, rfl, e1, e2, -, hl, hrw, l1, l2, hc⟩
  · obtain ⟨n1, n2⟩ := neg_fault f0
    exact step_ro f w (fun h0 h c => by simp only [fX6_readCell, hg, x0, x8, g_259_0 c.1, sv (st1 c.1), (f2 h0 _ _ h c).1, (f2 h0 _ _ h c).2, Option.elim, dnB_eval, c_isGrid, c_isKind, c_isSort, c_isPlain, r_isGrid, r_isKind, r_isSort, r_isPlain, r_in, dnP, Bool.false_eq_true, if_false, if_true]) (fun q0 q r => by simp only [fX13_readAnswer, hg, hk, v_289 r.1, f3 hg q0 _ q r, n1, dnB_eval, c_isGrid, c_isKind, c_isSort, c_isPlain, r_isGrid, r_isKind, r_isSort, r_isPlain, r_in, dnP, Bool.false_eq_true, if_false, if_true])
  rcases hc with ⟨k1, k2⟩ | ⟨I, hI, rfl, k1, k2⟩
  · exact step_ro (-6) w (fun h0 h c => by simp only [fX6_readCell, hg, x0, x8, g_259_0 c.1, sv (st1 c.1), l1 h0 _ _ h c, Option.elim, rv (row1 c.1 hr), k1 h0 _ _ h c, dnB_eval, c_isGrid, c_isKind, c_isSort, c_isPlain, r_isGrid, r_isKind, r_isSort, r_isPlain, r_in, dnP, Bool.false_eq_true, if_false, if_true]) (fun q0 q r => by simp only [fX13_readAnswer, hg, hk, v_289 r.1, k2 q0 _ q r, show ¬ (-6 : Int32) = 0 by decide, dnB_eval, c_isGrid, c_isKind, c_isSort, c_isPlain, r_isGrid, r_isKind, r_isSort, r_isPlain, r_in, dnP, Bool.false_eq_true, if_false, if_true])
  have hI2 : I < 12 := by have := hrw.2.1; omega
  obtain ⟨s1, s2, s3, s4⟩ := hrw.2.2 I hI2
  have g8 : (8 ≤ nI a) ↔ a = 8 := by rw [show (8 : Int32) = nI 8 from rfl, nI_leI (by omega) (by omega)]; omega
  have main : tk a ((A.2.2.1 r).2.2 I).1 = true → (∀ h0 h, CS h0 sp0 [] h A → ∃ h1, fX6_readCell_j82 (some 259) (nI I) (nI a) (some (5 + 4 * r)) h = some (nI (cvt a ((A.2.2.1 r).2.2 I)).1, h1) ∧ CS h0 sp0 [] h1 (setN A (codeOf (cvt a ((A.2.2.1 r).2.2 I)), A.2.2.2.2))) ∧ ∀ q0 k, RS q0 [] k A → ∃ q1, fX13_readAnswer_j66 (some 289) (nI I) (nI a) (nI r) k = some (nI (cvt a ((A.2.2.1 r).2.2 I)).1, q1) ∧ RS q0 [] q1 (setN A (codeOf (cvt a ((A.2.2.1 r).2.2 I)), A.2.2.2.2)) := fun ht => by
    have hcv := celOk_cvt hB (show a < 12 by omega) s1 ht s4
    refine ⟨fun h0 h c => ?_, fun q0 k r' => ?_⟩
    · obtain ⟨h1, a1, a2, a3⟩ := begin_A (n := 1) (rw260 c.1) (show a < 12 by omega)
      have a1 : fX5_begin (some 260) (nI a) 1 h = some ((), h1) := a1
      have c1 := c.hand (by decide) (by decide) a2
      obtain ⟨h2, b1, b2, b3⟩ := accept_A (B := B) (i := 0) (j := I) (rw260 c1.1) (row1 c1.1 hr) a3 (c1.row hr (hl _)) (by decide) hI2 (show a < 12 by omega) (celOk_new hB (show a < 12 by omega)) s1 s4 (fun e => by omega)
      have b1 : fX5_accept (some 260) 0 (some (5 + 4 * r)) (nI I) h1 = some (tk a ((A.2.2.1 r).2.2 I).1, h2) := b1
      have b3 : RwH h2 260 (if tk a ((A.2.2.1 r).2.2 I).1 = true then setC (newR a 1) 0 (cvt a ((A.2.2.1 r).2.2 I)) else newR a 1) := b3
      rw [if_pos ht] at b3
      have c2 := c1.hand (by decide) (by decide) b2
      have d1 : fX5_codeAt (some 260) 0 h2 = some (codeOf (cvt a ((A.2.2.1 r).2.2 I)), h2) := codeAt_A (B := B) (i := 0) (rw260 c2.1) b3 (by decide) hcv.1 hcv.2.2.2
      have c3 := c2.told (codeOf (cvt a ((A.2.2.1 r).2.2 I)))
      have d2 : (dnSL h2 258 0 (codeOf (cvt a ((A.2.2.1 r).2.2 I)))).2.1 (260 + 1) 0 = nI (cvt a ((A.2.2.1 r).2.2 I)).1 := (b3.2.2 0 (by decide)).1
      refine ⟨_, ?_, c3⟩
      simp only [fX6_readCell_j82, dnB_eval, g_259_2 c.1, rv (rw260 c.1), a1, g_259_2 c1.1, rv (rw260 c1.1), b1, g_259_1 c2.1, g_259_2 c2.1, rv (rw260 c2.1), d1, p_258_0 c2.1, g_259_2 c3.1, rg_3 (rw260 c3.1), ra_1 (rw260 c3.1), show dnIn 0 12 = true by decide, show (0 : Int32).toNatClampNeg = 0 by decide, if_true, d2, dnP]
    · obtain ⟨h1, a1, c1, v1⟩ := loads_A r' hr (hl _) hI2
      have fin : ∀ k1, RS q0 [] k1 A → hv k1 (cvt a ((A.2.2.1 r).2.2 I)) → ∃ q1, fX13_readAnswer_j86 (some 289) k1 = some (nI (cvt a ((A.2.2.1 r).2.2 I)).1, q1) ∧ RS q0 [] q1 (setN A (codeOf (cvt a ((A.2.2.1 r).2.2 I)), A.2.2.2.2)) := fun k1 rk hk1 => by
        obtain ⟨t1, t2⟩ := tells_A rk (codeOf (cvt a ((A.2.2.1 r).2.2 I))) (nI (cvt a ((A.2.2.1 r).2.2 I)).1)
        exact ⟨_, by simp only [fX13_readAnswer_j86, dnB_eval, v_289 rk.1, toldOf_A rk.1 hk1 hcv.1 hcv.2.2.2, g_289_12 rk.1, hk1.1, t1, dnP], t2⟩
      by_cases q8 : a = 8
      · subst q8
        obtain ⟨q1, x1, x2⟩ := fin h1 c1 v1
        exact ⟨q1, by simp only [fX13_readAnswer_j66, dnB_eval, v_289 r'.1, a1, show (8 : Int32) ≤ nI 8 by decide, if_true, x1], x2⟩
      · obtain ⟨h2, a2, c2, v2⟩ := widens_A (B := B) c1 v1 (show a < 8 by omega) s1 ht s4
        obtain ⟨q1, x1, x2⟩ := fin h2 c2 v2
        have n8 : ¬ 8 ≤ nI a := fun hc => q8 (g8.mp hc)
        exact ⟨q1, by simp only [fX13_readAnswer_j66, dnB_eval, v_289 r'.1, a1, n8, if_false, v_289 c1.1, a2, x1], x2⟩
  by_cases q8 : a = 8
  · have ht : tk a ((A.2.2.1 r).2.2 I).1 = true := by rw [q8]; exact (by decide +kernel : ∀ s, s < 12 → tk 8 s = true) _ s1
    obtain ⟨m1, m2⟩ := main ht
    have p8 : 8 ≤ nI a := g8.mpr q8
    refine ⟨nI (cvt a ((A.2.2.1 r).2.2 I)).1, setN A (codeOf (cvt a ((A.2.2.1 r).2.2 I)), A.2.2.2.2), w.note, fun h0 h c => ?_, fun q0 k r' => ?_⟩
    · obtain ⟨h1, x1, x2⟩ := m1 h0 h c
      exact ⟨h1, by simp only [fX6_readCell, hg, x0, x8, g_259_0 c.1, sv (st1 c.1), l1 h0 _ _ h c, Option.elim, rv (row1 c.1 hr), k1 h0 _ _ h c, p8, x1, dnB_eval, c_isGrid, c_isKind, c_isSort, c_isPlain, r_isGrid, r_isKind, r_isSort, r_isPlain, r_in, dnP, Bool.false_eq_true, if_false, if_true], x2⟩
    · obtain ⟨h1, x1, x2⟩ := m2 q0 k r'
      exact ⟨h1, _, by simp only [fX13_readAnswer, hg, hk, v_289 r'.1, k2 q0 _ k r', (l2 q0 _ k r').2, p8, x1, dnB_eval, c_isGrid, c_isKind, c_isSort, c_isPlain, r_isGrid, r_isKind, r_isSort, r_isPlain, r_in, dnP, Bool.false_eq_true, if_false, if_true], x2⟩
  · have n8 : ¬ 8 ≤ nI a := fun hc => q8 (g8.mp hc)
    have ha8 : decide (a < 8) = true := decide_eq_true (by omega)
    by_cases hrd : (decide ((A.2.2.1 r).1 < 8) && tk a (A.2.2.1 r).1) = true
    · have hp : (A.2.2.1 r).1 < 8 ∧ tk a (A.2.2.1 r).1 = true := by simpa using hrd
      have ht : tk a ((A.2.2.1 r).2.2 I).1 = true := by rw [s3 hp.1]; exact hp.2
      obtain ⟨m1, m2⟩ := main ht
      refine ⟨nI (cvt a ((A.2.2.1 r).2.2 I)).1, setN A (codeOf (cvt a ((A.2.2.1 r).2.2 I)), A.2.2.2.2), w.note, fun h0 h c => ?_, fun q0 k r' => ?_⟩
      · obtain ⟨h1, x1, x2⟩ := m1 h0 h c
        exact ⟨h1, by simp only [fX6_readCell, hg, x0, x8, g_259_0 c.1, sv (st1 c.1), l1 h0 _ _ h c, Option.elim, rv (row1 c.1 hr), k1 h0 _ _ h c, n8, rg_i (row1 c.1 hr), (c.row hr (hl _)).1, c_readsAs hrw.1 (show a < 12 by omega), hp.1, hp.2, ha8, decide_true, Bool.and_self, x1, dnB_eval, c_isGrid, c_isKind, c_isSort, c_isPlain, r_isGrid, r_isKind, r_isSort, r_isPlain, r_in, dnP, Bool.false_eq_true, if_false, if_true], x2⟩
      · obtain ⟨h1, x1, x2⟩ := m2 q0 k r'
        exact ⟨h1, _, by simp only [fX13_readAnswer, hg, hk, v_289 r'.1, k2 q0 _ k r', (l2 q0 _ k r').2, n8, isReadable_A r' hr (hl _) hrw.1 (show a < 12 by omega), hrd, x1, dnB_eval, c_isGrid, c_isKind, c_isSort, c_isPlain, r_isGrid, r_isKind, r_isSort, r_isPlain, r_in, dnP, Bool.false_eq_true, if_false, if_true], x2⟩
    · have hrd2 : (decide ((A.2.2.1 r).1 < 8) && tk a (A.2.2.1 r).1) = false := by simpa using hrd
      have hrd3 : (decide ((A.2.2.1 r).1 < 8) && decide (a < 8) && tk a (A.2.2.1 r).1) = false := by rw [ha8, Bool.and_true]; exact hrd2
      exact step_ro (-7) w (fun h0 h c => by simp only [fX6_readCell, hg, x0, x8, g_259_0 c.1, sv (st1 c.1), l1 h0 _ _ h c, Option.elim, rv (row1 c.1 hr), k1 h0 _ _ h c, n8, rg_i (row1 c.1 hr), (c.row hr (hl _)).1, c_readsAs hrw.1 (show a < 12 by omega), hrd3, dnB_eval, c_isGrid, c_isKind, c_isSort, c_isPlain, r_isGrid, r_isKind, r_isSort, r_isPlain, r_in, dnP, Bool.false_eq_true, if_false, if_true]) (fun q0 k r' => by simp only [fX13_readAnswer, hg, hk, v_289 r'.1, k2 q0 _ k r', (l2 q0 _ k r').2, n8, isReadable_A r' hr (hl _) hrw.1 (show a < 12 by omega), hrd2, dnB_eval, c_isGrid, c_isKind, c_isSort, c_isPlain, r_isGrid, r_isKind, r_isSort, r_isPlain, r_in, dnP, Bool.false_eq_true, if_false, if_true])

theorem call_read {B : Nat} (hB : 16 ≤ B) (g p i s : Int32) : Call B B (fX12_read (some 0) g p i s) (fX13_read (some 289) g p i s) :=
  callA (Nat.le_refl _) (fun h v h1 s1 s2 e => by simp only [fX12_read, dnB_eval, g_0_4 s1, v_259 s1, e, v_0 s2, tally_c s2, dnP]) (fun h v h1 s1 s2 e => by simp only [fX13_read, dnB_eval, v_289 s1, e, v_289 s2, said_r s2, dnP]) (step_read hB g p i s)
