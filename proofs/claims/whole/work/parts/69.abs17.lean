/-! ABS 17: rows copied aside; flip, roll -/
theorem cpI {h : dnH} {a b m : Nat} (ha : h.1[a]? = some (100, m)) (hb : h.1[b]? = some (100, m)) (hm : m < 2 ^ 31) : dnCI (some a) (some b) 0 0 (nI m) h = some ((), (h.1, dnUpA h.2.1 b (fun k => if k < m then h.2.1 a k else h.2.1 b k), h.2.2)) := by
  have e0 : (0 : Int32).toNatClampNeg = 0 := by decide
  have em : (nI m).toNatClampNeg = m := nI_clamp hm
  have : va_cpy (h.2.1 a) (h.2.1 b) 0 0 m = (fun k => if k < m then h.2.1 a k else h.2.1 b k) := by
    funext k
    unfold va_cpy
    simp
  simp only [dnCI, dnCpOk, dnAt_ok ha, dnAt_ok hb, e0, em, Nat.zero_add, Nat.le_refl, nI_pos hm, show ¬ (0 : Int32) < 0 by decide, not_false_eq_true, and_self, if_true, Option.map_some, dnCp, this]
theorem cpL {h : dnH} {a b m : Nat} (ha : h.1[a]? = some (102, m)) (hb : h.1[b]? = some (102, m)) (hm : m < 2 ^ 31) : dnCL (some a) (some b) 0 0 (nI m) h = some ((), (h.1, h.2.1, dnUpA h.2.2.1 b (fun k => if k < m then h.2.2.1 a k else h.2.2.1 b k), h.2.2.2)) := by
  have e0 : (0 : Int32).toNatClampNeg = 0 := by decide
  have em : (nI m).toNatClampNeg = m := nI_clamp hm
  have : va_cpy (h.2.2.1 a) (h.2.2.1 b) 0 0 m = (fun k => if k < m then h.2.2.1 a k else h.2.2.1 b k) := by
    funext k
    unfold va_cpy
    simp
  simp only [dnCL, dnCpOk, dnAt_ok ha, dnAt_ok hb, e0, em, Nat.zero_add, Nat.le_refl, nI_pos hm, show ¬ (0 : Int32) < 0 by decide, not_false_eq_true, and_self, if_true, Option.map_some, dnCp, this]
theorem cpD {h : dnH} {a b m : Nat} (ha : h.1[a]? = some (103, m)) (hb : h.1[b]? = some (103, m)) (hm : m < 2 ^ 31) : dnCD (some a) (some b) 0 0 (nI m) h = some ((), (h.1, h.2.1, h.2.2.1, dnUpA h.2.2.2.1 b (fun k => if k < m then h.2.2.2.1 a k else h.2.2.2.1 b k), h.2.2.2.2)) := by
  have e0 : (0 : Int32).toNatClampNeg = 0 := by decide
  have em : (nI m).toNatClampNeg = m := nI_clamp hm
  have : va_cpy (h.2.2.2.1 a) (h.2.2.2.1 b) 0 0 m = (fun k => if k < m then h.2.2.2.1 a k else h.2.2.2.1 b k) := by
    funext k
    unfold va_cpy
    simp
  simp only [dnCD, dnCpOk, dnAt_ok ha, dnAt_ok hb, e0, em, Nat.zero_add, Nat.le_refl, nI_pos hm, show ¬ (0 : Int32) < 0 by decide, not_false_eq_true, and_self, if_true, Option.map_some, dnCp, this]
/-- what a row object holds, all of it -/
theorem copyFrom_X {h : dnH} {a b : Nat} (ha : RowAt h a) (hb : RowAt h b) (hne : b + 4 ≤ a ∨ a + 4 ≤ b) : ∃ h2, fX5_copyFrom (some a) (some b) h = some ((), h2) ∧ EqR a h h2 ∧ h2.2.1 a 1 = h.2.1 b 1 ∧ h2.2.1 a 2 = h.2.1 b 2 ∧ ∀ i, i < 12 → h2.2.1 (a + 1) i = h.2.1 (b + 1) i ∧ h2.2.2.1 (a + 2) i = h.2.2.1 (b + 2) i ∧ h2.2.2.2.1 (a + 3) i = h.2.2.2.1 (b + 3) i := by
  have h1 : RowAt (dnSI h a 1 (h.2.1 b 1)) a := ha
  have h1b : RowAt (dnSI h a 1 (h.2.1 b 1)) b := hb
  have e1 : (dnSI h a 1 (h.2.1 b 1)).2.1 b 2 = h.2.1 b 2 := dnUp_neA (by omega)
  have h2 : RowAt (dnSI (dnSI h a 1 (h.2.1 b 1)) a 2 (h.2.1 b 2)) a := ha
  have h2b : RowAt (dnSI (dnSI h a 1 (h.2.1 b 1)) a 2 (h.2.1 b 2)) b := hb
  have c1 := cpI (m := 12) h2b.2.1 h2.2.1 (by decide)
  generalize hk1 : ((dnSI (dnSI h a 1 (h.2.1 b 1)) a 2 (h.2.1 b 2)).1, dnUpA (dnSI (dnSI h a 1 (h.2.1 b 1)) a 2 (h.2.1 b 2)).2.1 (a + 1) (fun k => if k < 12 then (dnSI (dnSI h a 1 (h.2.1 b 1)) a 2 (h.2.1 b 2)).2.1 (b + 1) k else (dnSI (dnSI h a 1 (h.2.1 b 1)) a 2 (h.2.1 b 2)).2.1 (a + 1) k), (dnSI (dnSI h a 1 (h.2.1 b 1)) a 2 (h.2.1 b 2)).2.2) = k1 at c1
  have h3 : RowAt k1 a := by rw [← hk1]; exact ha
  have h3b : RowAt k1 b := by rw [← hk1]; exact hb
  have c2 := cpL (m := 12) h3b.2.2.1 h3.2.2.1 (by decide)
  generalize hk2 : (k1.1, k1.2.1, dnUpA k1.2.2.1 (a + 2) (fun k => if k < 12 then k1.2.2.1 (b + 2) k else k1.2.2.1 (a + 2) k), k1.2.2.2) = k2 at c2
  have h4 : RowAt k2 a := by rw [← hk2]; exact h3
  have h4b : RowAt k2 b := by rw [← hk2]; exact h3b
  have c3 := cpD (m := 12) h4b.2.2.2.1 h4.2.2.2.1 (by decide)
  have c1 : dnCI (some (b + 1)) (some (a + 1)) 0 0 12 (dnSI (dnSI h a 1 (h.2.1 b 1)) a 2 (h.2.1 b 2)) = some ((), k1) := c1
  have c2 : dnCL (some (b + 2)) (some (a + 2)) 0 0 12 k1 = some ((), k2) := c2
  have c3 : dnCD (some (b + 3)) (some (a + 3)) 0 0 12 k2 = _ := c3
  refine ⟨(k2.1, k2.2.1, k2.2.2.1, dnUpA k2.2.2.2.1 (a + 3) (fun k => if k < 12 then k2.2.2.2.1 (b + 3) k else k2.2.2.2.1 (a + 3) k), k2.2.2.2.2), by simp only [fX5_copyFrom, dnB_eval, rg_i hb, rp_i ha, rg_i h1b, e1, rp_i h1, rg_3 h2, rg_3 h2b, c1, rg_4 h3, rg_4 h3b, c2, rg_5 h4, rg_5 h4b, c3, dnP], ⟨⟨?_, ?_, fun x hx => ⟨?_, ?_, ?_⟩⟩, ?_⟩, ?_, ?_, fun i hi => ⟨?_, ?_, ?_⟩⟩
  · rw [← hk2, ← hk1]; rfl
  · rw [← hk2, ← hk1]; rfl
  · rw [← hk2, ← hk1]
    show dnUpA (dnUp (dnUp h.2.1 a 1 _) a 2 _) (a + 1) _ x = h.2.1 x
    rw [dnUpA_row (by omega), dnUp_row (by omega), dnUp_row (by omega)]
  · rw [← hk2, ← hk1]
    show dnUpA h.2.2.1 (a + 2) _ x = h.2.2.1 x
    rw [dnUpA_row (by omega)]
  · rw [← hk2, ← hk1]
    show dnUpA h.2.2.2.1 (a + 3) _ x = h.2.2.2.1 x
    rw [dnUpA_row (by omega)]
  · rw [← hk2, ← hk1]
    simp [dnUpA, dnSI, dnUp]
  · rw [← hk2, ← hk1]
    simp [dnUpA, dnSI, dnUp]
  · rw [← hk2, ← hk1]
    simp [dnUpA, dnSI, dnUp]
  · rw [← hk2, ← hk1]
    have : ¬ b + 1 = a := by omega
    simp [dnUpA, dnSI, dnUp, hi, this]
  · rw [← hk2, ← hk1]
    simp [dnUpA, dnSI, dnUp, hi]
  · rw [← hk2, ← hk1]
    simp [dnUpA, dnSI, dnUp, hi]
theorem copyFrom_A {h : dnH} {a b : Nat} {Q : Rw} (ha : RowAt h a) (hb : RowAt h b) (hQ : RwH h b Q) (hne : b + 4 ≤ a ∨ a + 4 ≤ b) : ∃ h2, fX5_copyFrom (some a) (some b) h = some ((), h2) ∧ EqR a h h2 ∧ RwH h2 a Q := by
  obtain ⟨h2, e1, e2, e3, e4, e5⟩ := copyFrom_X ha hb hne
  exact ⟨h2, e1, e2, e3.trans hQ.1, e4.trans hQ.2.1, fun i hi => ⟨(e5 i hi).1.trans (hQ.2.2 i hi).1, (e5 i hi).2.1.trans (hQ.2.2 i hi).2.1, (e5 i hi).2.2.trans (hQ.2.2 i hi).2.2⟩⟩
theorem cvt_self {B kd : Nat} {c : Cel} (h : celOk B kd c) : cvt kd c = c := by
  obtain ⟨s, n, d⟩ := c
  obtain ⟨h1, h2, h3, h4⟩ := h
  dsimp only at h1 h2 h3 h4
  have e1 : cvS kd s = s := by
    unfold cvS
    split
    · rename_i q
      exact (h3 q).symm
    · rfl
  have e2 : cvNN kd n = n := by
    unfold cvNN
    split
    · rename_i q
      have k67 : kd = 6 ∨ kd = 7 := by simpa [isRlN] using q
      exact (h4.2.2.2.1 (by rw [h3 (by omega)]; exact q)).symm
    · rfl
  have e3 : cvR kd s n d = d := by
    unfold cvR
    split
    · rename_i q
      have hs := h3 (by omega)
      subst hs
      unfold cvF
      rw [if_pos (by rw [q]; decide)]
      exact (h4.2.2.2.2.2.1 q).back
    · split
      · rename_i q
        have hs := h3 (by omega)
        subst hs
        unfold cvD
        rw [if_pos (by rw [q]; decide)]
      · rfl
  show (cvS kd s, cvNN kd n, cvR kd s n d) = _
  rw [e1, e2, e3]
def ByIs (h : dnH) (Q : Rw) : Prop := ∀ i, i < 12 → h.2.1 299 i = nI (Q.2.2 i).1 ∧ h.2.2.1 300 i = (Q.2.2 i).2.1 ∧ h.2.2.2.1 301 i = (Q.2.2 i).2.2
theorem laysBy_A {h0 h : dnH} {X : List Nat} {A : Ab} {r : Nat} (c : RS h0 X h A) (hr : r < 31) (hl : live X A r) : ∃ h2, fX13_laysBy (some 289) (nI r) h = some ((), h2) ∧ RS h0 X h2 A ∧ ByIs h2 (A.2.2.1 r) := by
  have KK := it_inv (f := fX13_laysBy_b2 (some 289) (nI r)) (Q := fun _ k => RS h0 X k A ∧ ByIs k (A.2.2.1 r)) (fun j s k => s = nI j ∧ RS h0 X k A ∧ ∀ i, i < j → k.2.1 299 i = nI ((A.2.2.1 r).2.2 i).1 ∧ k.2.2.1 300 i = ((A.2.2.1 r).2.2 i).2.1 ∧ k.2.2.2.1 301 i = ((A.2.2.1 r).2.2 i).2.2) 12 1000 0 (by decide) (by decide) ?_ ?_ (nI 0) h ⟨rfl, c, fun i hi => by omega⟩
  · obtain ⟨_, h2, b1, r2, b2⟩ := KK
    rw [nI_0] at b1
    exact ⟨h2, by simp only [fX13_laysBy, dnB_eval, b1, dnP], r2, b2⟩
  · rintro j s k hj ⟨rfl, rk, hk⟩
    left
    have hc : ¬ ((12 : Int32) ≤ nI j) := fun hc => by have := (nI_leI (a := 12) (b := j) (by omega) (by omega)).mp hc; omega
    have i1 := dnIn_nI (show j < 12 by omega) (by decide)
    have i2 : (nI j).toNatClampNeg = j := nI_clamp (by omega)
    have r1 : RS h0 X (dnSI k 299 j (nI ((A.2.2.1 r).2.2 j).1)) A := rk.fr (eqc_SI (by unfold Pn; decide)) ⟨rfl, rfl, rfl, rfl, rfl⟩
    have r2 : RS h0 X (dnSL (dnSI k 299 j (nI ((A.2.2.1 r).2.2 j).1)) 300 j ((A.2.2.1 r).2.2 j).2.1) A := r1.fr (eqc_SL (by unfold Pn; decide)) ⟨rfl, rfl, rfl, rfl, rfl⟩
    have r3 : RS h0 X (dnSD (dnSL (dnSI k 299 j (nI ((A.2.2.1 r).2.2 j).1)) 300 j ((A.2.2.1 r).2.2 j).2.1) 301 j ((A.2.2.1 r).2.2 j).2.2) A := r2.fr (eqc_SD (by unfold Pn; decide)) ⟨rfl, rfl, rfl, rfl, rfl⟩
    refine ⟨nI (j + 1), _, ?_, rfl, r3, fun i hi => ?_⟩
    · simp only [fX13_laysBy_b2, hc, if_false, dnB_eval, g_289_15 rk.1, g_289_9 rk.1, at_r, srt_A rk hr hl hj, t_299 rk.1, i1, i2, if_true, g_289_16 r1.1, g_289_10 r1.1, num_A r1 hr hl hj, t_300 r1.1, g_289_17 r2.1, g_289_11 r2.1, rea_A r2 hr hl hj, t_301 r2.1, dnP, nI_1]
    · by_cases q : i = j
      · subst q
        simp [dnSI, dnSL, dnSD, dnUp]
      · obtain ⟨x1, x2, x3⟩ := hk i (by omega)
        simp [dnSI, dnSL, dnSD, dnUp, q, x1, x2, x3]
  · rintro s k ⟨rfl, rk, hk⟩
    exact ⟨(), k, by simp only [fX13_laysBy_b2, show (12 : Int32) ≤ nI 12 by decide, if_true, dnP], rk, hk⟩
theorem fromBy_A {h0 h : dnH} {X : List Nat} {A : Ab} {Q : Rw} {r k i : Nat} (c : RS h0 X h A) (hb : ByIs h Q) (hk : k < 12) (hr : r < 31) (hl : live X A r) (hi : i < 12) : ∃ h2, fX13_fromBy (some 289) (nI k) (nI r) (nI i) h = some ((), h2) ∧ RS h0 X h2 (setR A r (setC (A.2.2.1 r) i (Q.2.2 k))) ∧ ByIs h2 Q := by
  obtain ⟨x1, x2, x3⟩ := hb k hk
  have i1 := dnIn_nI (show k < 12 by omega) (by decide)
  have i2 : (nI k).toNatClampNeg = k := nI_clamp (by omega)
  have s1 : Sh (dnSI h 289 12 (nI (Q.2.2 k).1)) := c.1
  have s2 : Sh (dnSL (dnSI h 289 12 (nI (Q.2.2 k).1)) 289 13 (Q.2.2 k).2.1) := c.1
  have x2' : (dnSI h 289 12 (nI (Q.2.2 k).1)).2.2.1 300 k = (Q.2.2 k).2.1 := x2
  have x3' : (dnSL (dnSI h 289 12 (nI (Q.2.2 k).1)) 289 13 (Q.2.2 k).2.1).2.2.2.1 301 k = (Q.2.2 k).2.2 := x3
  have r1 : RS h0 X (dnSD (dnSL (dnSI h 289 12 (nI (Q.2.2 k).1)) 289 13 (Q.2.2 k).2.1) 289 14 (Q.2.2 k).2.2) A := c.setV
  have v1 : hv (dnSD (dnSL (dnSI h 289 12 (nI (Q.2.2 k).1)) 289 13 (Q.2.2 k).2.1) 289 14 (Q.2.2 k).2.2) (Q.2.2 k) := hv_set
  have key := lays_r r1.1 (show r < 32 by omega) hi
  rw [v1.1, v1.2.1, v1.2.2] at key
  refine ⟨_, ?_, r1.cell hr hl hi, ?_⟩
  · simp only [fX13_fromBy, dnB_eval, g_289_15 c.1, a_299 c.1, i1, i2, if_true, x1, p_289_12 c.1, g_289_16 s1, a_300 s1, x2', p_289_13 s1, g_289_17 s2, a_301 s2, x3', p_289_14 s2, v_289 r1.1, key, dnP]
  · intro j hj
    obtain ⟨y1, y2, y3⟩ := hb j hj
    simp [wrR, dnSI, dnSL, dnSD, dnUp, y1, y2, y3]
def flipC (Q : Rw) (j : Nat) : Rw := (Q.1, Q.2.1, fun k => if Q.2.1 - j ≤ k ∧ k < Q.2.1 then Q.2.2 (Q.2.1 - 1 - k) else Q.2.2 k)
def flipT (Q : Rw) (j : Nat) : Rw := (Q.1, Q.2.1, fun k => if k < j then Q.2.2 (Q.2.1 - 1 - k) else Q.2.2 k)
theorem flipC_0 {Q : Rw} : flipC Q 0 = Q := by
  unfold flipC
  have : (fun k => if Q.2.1 - 0 ≤ k ∧ k < Q.2.1 then Q.2.2 (Q.2.1 - 1 - k) else Q.2.2 k) = Q.2.2 := by
    funext k
    rw [if_neg (by omega)]
  rw [this]
theorem flipC_s {Q : Rw} {j : Nat} (hj : j < Q.2.1) : flipC Q (j + 1) = setC (flipC Q j) (Q.2.1 - 1 - j) (Q.2.2 j) := by
  unfold flipC setC
  have : (fun k => if Q.2.1 - (j + 1) ≤ k ∧ k < Q.2.1 then Q.2.2 (Q.2.1 - 1 - k) else Q.2.2 k) = (fun k => if k = Q.2.1 - 1 - j then Q.2.2 j else if Q.2.1 - j ≤ k ∧ k < Q.2.1 then Q.2.2 (Q.2.1 - 1 - k) else Q.2.2 k) := by
    funext k
    by_cases q : k = Q.2.1 - 1 - j
    · rw [if_pos q, if_pos (by omega), show Q.2.1 - 1 - k = j by omega]
    · rw [if_neg q]
      by_cases q2 : Q.2.1 - j ≤ k ∧ k < Q.2.1
      · rw [if_pos q2, if_pos (by omega)]
      · rw [if_neg q2, if_neg (by omega)]
  rw [this]
theorem flipT_0 {Q : Rw} : flipT Q 0 = Q := rfl
theorem flipT_s {Q : Rw} {j : Nat} : flipT Q (j + 1) = setC (flipT Q j) j (Q.2.2 (Q.2.1 - 1 - j)) := by
  unfold flipT setC
  have : (fun k => if k < j + 1 then Q.2.2 (Q.2.1 - 1 - k) else Q.2.2 k) = (fun k => if k = j then Q.2.2 (Q.2.1 - 1 - j) else if k < j then Q.2.2 (Q.2.1 - 1 - k) else Q.2.2 k) := by
    funext k
    by_cases q : k = j
    · rw [if_pos q, if_pos (by omega), q]
    · rw [if_neg q]
      by_cases q2 : k < j
      · rw [if_pos q2, if_pos (by omega)]
      · rw [if_neg q2, if_neg (by omega)]
  rw [this]
theorem flip_eq {Q : Rw} : flipC Q Q.2.1 = flipT Q Q.2.1 := by
  unfold flipC flipT
  have : (fun k => if Q.2.1 - Q.2.1 ≤ k ∧ k < Q.2.1 then Q.2.2 (Q.2.1 - 1 - k) else Q.2.2 k) = (fun k => if k < Q.2.1 then Q.2.2 (Q.2.1 - 1 - k) else Q.2.2 k) := by
    funext k
    by_cases q : k < Q.2.1
    · rw [if_pos q, if_pos (by omega)]
    · rw [if_neg q, if_neg (by omega)]
  rw [this]
theorem flipC_ok {B : Nat} {Q : Rw} {j : Nat} (h : rwOk B Q) : rwOk B (flipC Q j) := ⟨h.1, h.2.1, fun k hk => by
  show celOk B Q.1 (if Q.2.1 - j ≤ k ∧ k < Q.2.1 then Q.2.2 (Q.2.1 - 1 - k) else Q.2.2 k)
  have h12 := h.2.1
  split
  · exact h.2.2 _ (by omega)
  · exact h.2.2 k hk⟩
theorem nI_sub {a b : Nat} (h : b ≤ a) : nI a - nI b = nI (a - b) := by
  have : nI a = nI (a - b) + nI b := by rw [nI_add, show a - b + b = a by omega]
  rw [this, Int32.add_sub_cancel]
theorem nI_sub1 {a : Nat} (h : 1 ≤ a) : nI a - 1 = nI (a - 1) := nI_sub (b := 1) h
theorem step_flip {B : Nat} (g p : Int32) : Step B B (fX6_reverse (some 259) g p) (fX13_flipDeed (some 289) g p) := by
  intro A w
  cases hg : inB g 0 3
  · rcases lookR w g p with ⟨f, f0, f1, f2, f3⟩ | ⟨G, P, m, r, hG, hP, hm, hr, rfl, rfl, e1, e2, hb, _⟩
    · rw [f1 hg] at f2
      exact step_ro (-1) w (fun h0 h c => by simp only [fX6_reverse, hg, g_259_0 c.1, sv (st1 c.1), (f2 h0 _ _ h c).1, (f2 h0 _ _ h c).2, Option.elim, dnB_eval, c_isGrid, c_isKind, c_isSort, c_isPlain, r_isGrid, r_isKind, r_isSort, r_isPlain, r_in, dnP, Bool.false_eq_true, if_false, if_true]) (fun q0 q r => by simp only [fX13_flipDeed, hg, dnB_eval, c_isGrid, c_isKind, c_isSort, c_isPlain, r_isGrid, r_isKind, r_isSort, r_isPlain, r_in, dnP, Bool.false_eq_true, if_false, if_true])
    · rw [hg] at hb
      cases hb
  rcases lookR w g p with ⟨f, f0, -, f2, f3⟩ | ⟨G, P, m, r, hG, hP, hm, hr, rfl, rfl, e1, e2, -, hl, -, hrw, l1, l2⟩
  · obtain ⟨n1, n2⟩ := neg_fault f0
    exact step_ro f w (fun h0 h c => by simp only [fX6_reverse, g_259_0 c.1, sv (st1 c.1), (f2 h0 _ _ h c).1, (f2 h0 _ _ h c).2, Option.elim, dnB_eval, c_isGrid, c_isKind, c_isSort, c_isPlain, r_isGrid, r_isKind, r_isSort, r_isPlain, r_in, dnP, Bool.false_eq_true, if_false, if_true]) (fun q0 q r => by simp only [fX13_flipDeed, hg, v_289 r.1, f3 hg q0 _ q r, n1, dnB_eval, c_isGrid, c_isKind, c_isSort, c_isPlain, r_isGrid, r_isKind, r_isSort, r_isPlain, r_in, dnP, Bool.false_eq_true, if_false, if_true])
  have N1 := hrw.2.1
  refine ⟨nI (A.2.2.1 r).2.1, setR A r (flipT (A.2.2.1 r) (A.2.2.1 r).2.1), w.setR (fun m hm => .inr hm) (by rw [← flip_eq]; exact flipC_ok hrw), fun h0 h c => ?_, fun q0 k r' => ?_⟩
  · obtain ⟨h1, a1, a2, a3⟩ := copyFrom_A (rw264 c.1) (row1 c.1 hr) (c.row hr hl) (by omega)
    have c1 := c.hand (by decide) (by decide) a2
    have KK := it_inv (f := fX6_reverse_b35 (some 259) (some (5 + 4 * r))) (Q := fun _ k => CS h0 sp0 [] k (setR A r (flipC (A.2.2.1 r) (A.2.2.1 r).2.1))) (fun j s k => s = nI j ∧ CS h0 sp0 [] k (setR A r (flipC (A.2.2.1 r) j)) ∧ RwH k 264 (A.2.2.1 r)) (A.2.2.1 r).2.1 1000 0 (by omega) (by omega) ?_ ?_ (nI 0) h1 ⟨rfl, by rw [flipC_0, setR_self]; exact c1, a3⟩
    · obtain ⟨_, h2, b1, c2⟩ := KK
      rw [nI_0] at b1
      rw [flip_eq] at c2
      have rr := c2.row hr hl
      rw [setR_at] at rr
      refine ⟨h2, ?_, c2⟩
      simp only [fX6_reverse, g_259_0 c.1, g_259_3 c.1, sv (st1 c.1), l1 h0 _ _ h c, Option.elim, rv (rw264 c.1), a1, b1, rg_i (row1 c2.1 hr), rr.2.1, dnB_eval, c_isGrid, c_isKind, c_isSort, c_isPlain, r_isGrid, r_isKind, r_isSort, r_isPlain, r_in, dnP, Bool.false_eq_true, if_false, if_true]
      rfl
    · rintro j s k hj ⟨rfl, ck, hk⟩
      left
      have hc : ¬ (nI (A.2.2.1 r).2.1 ≤ nI j) := fun hc => by have := (nI_leI (a := (A.2.2.1 r).2.1) (b := j) (by omega) (by omega)).mp hc; omega
      have rr := ck.row hr hl
      rw [setR_at] at rr
      have lr : k.2.1 (5 + 4 * r) 2 = nI (A.2.2.1 r).2.1 := rr.2.1
      have ok := flipC_ok (j := j) hrw
      obtain ⟨k2, b1, b2, b3⟩ := accept_A (B := B) (i := (A.2.2.1 r).2.1 - 1 - j) (j := j) (row1 ck.1 hr) (rw264 ck.1) rr hk (by omega) (by omega) hrw.1 (ok.2.2 _ (by omega)) (hrw.2.2 j (by omega)).1 (hrw.2.2 j (by omega)).2.2.2 (fun e => by omega)
      have b3 : RwH k2 (5 + 4 * r) (if tk (A.2.2.1 r).1 ((A.2.2.1 r).2.2 j).1 = true then setC (flipC (A.2.2.1 r) j) ((A.2.2.1 r).2.1 - 1 - j) (cvt (A.2.2.1 r).1 ((A.2.2.1 r).2.2 j)) else _) := b3
      rw [if_pos (hrw.2.2 j (by omega)).2.1, cvt_self (hrw.2.2 j (by omega)), ← flipC_s hj] at b3
      have c2 := ck.setRow (Y := []) hr (fun m hm => .inr hm) b2 b3
      rw [setR_setR] at c2
      refine ⟨nI (j + 1), k2, ?_, rfl, c2, b2.row (by omega) hk⟩
      simp only [fX6_reverse_b35, dnB_eval, rg_i (row1 ck.1 hr), lr, hc, if_false, g_259_3 ck.1, nI_sub1 (show 1 ≤ (A.2.2.1 r).2.1 by omega), nI_sub (show j ≤ (A.2.2.1 r).2.1 - 1 by omega), rv (row1 ck.1 hr), b1, dnP, nI_1]
    · rintro s k ⟨rfl, ck, hk⟩
      have rr := ck.row hr hl
      rw [setR_at] at rr
      have lr : k.2.1 (5 + 4 * r) 2 = nI (A.2.2.1 r).2.1 := rr.2.1
      exact ⟨(), k, by simp only [fX6_reverse_b35, dnB_eval, rg_i (row1 ck.1 hr), lr, Int32.le_refl, if_true, dnP], ck⟩
  · obtain ⟨k1, a1, r1, hb⟩ := laysBy_A r' hr hl
    have lx : ∀ j k, RS q0 [] k (setR A r (flipT (A.2.2.1 r) j)) → dnAI (some 294) 100 (nI r) k = some (nI (A.2.2.1 r).2.1, k) := fun j k rk => by
      have := len_A rk hr hl
      rw [setR_at] at this
      exact this
    have KK := it_inv (f := fX13_flipDeed_b39 (some 289) (nI r)) (Q := fun _ k => RS q0 [] k (setR A r (flipT (A.2.2.1 r) (A.2.2.1 r).2.1))) (fun j s k => s = nI j ∧ RS q0 [] k (setR A r (flipT (A.2.2.1 r) j)) ∧ ByIs k (A.2.2.1 r)) (A.2.2.1 r).2.1 1000 0 (by omega) (by omega) ?_ ?_ (nI 0) k1 ⟨rfl, by rw [flipT_0, setR_self]; exact r1, hb⟩
    · obtain ⟨_, k2, b1, r2⟩ := KK
      rw [nI_0] at b1
      refine ⟨k2, _, ?_, r2⟩
      simp only [fX13_flipDeed, hg, v_289 r'.1, (l2 q0 _ k r').1, (l2 q0 _ k r').2, a1, b1, g_289_7 r2.1, lx _ k2 r2, dnB_eval, c_isGrid, c_isKind, c_isSort, c_isPlain, r_isGrid, r_isKind, r_isSort, r_isPlain, r_in, dnP, Bool.false_eq_true, if_false, if_true]
    · rintro j s k hj ⟨rfl, rk, hk⟩
      left
      have hc : ¬ (nI (A.2.2.1 r).2.1 ≤ nI j) := fun hc => by have := (nI_leI (a := (A.2.2.1 r).2.1) (b := j) (by omega) (by omega)).mp hc; omega
      obtain ⟨k2, b1, r2, hk2⟩ := fromBy_A (i := j) (k := (A.2.2.1 r).2.1 - 1 - j) rk hk (by omega) hr hl (by omega)
      rw [setR_at, setR_setR, ← flipT_s] at r2
      refine ⟨nI (j + 1), k2, ?_, rfl, r2, hk2⟩
      simp only [fX13_flipDeed_b39, dnB_eval, g_289_7 rk.1, lx j k rk, hc, if_false, nI_sub1 (show 1 ≤ (A.2.2.1 r).2.1 by omega), nI_sub (show j ≤ (A.2.2.1 r).2.1 - 1 by omega), v_289 rk.1, b1, dnP, nI_1]
    · rintro s k ⟨rfl, rk, hk⟩
      exact ⟨(), k, by simp only [fX13_flipDeed_b39, dnB_eval, g_289_7 rk.1, lx _ k rk, Int32.le_refl, if_true, dnP], rk⟩

theorem call_flip {B : Nat} (g p : Int32) : Call B B (fX12_flip (some 0) g p) (fX13_flip (some 289) g p) :=
  callA (Nat.le_refl _) (fun h v h1 s1 s2 e => by simp only [fX12_flip, dnB_eval, g_0_4 s1, v_259 s1, e, v_0 s2, tally_c s2, dnP]) (fun h v h1 s1 s2 e => by simp only [fX13_flip, dnB_eval, v_289 s1, e, v_289 s2, said_r s2, dnP]) (step_flip g p)
