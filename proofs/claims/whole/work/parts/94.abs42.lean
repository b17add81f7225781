/-! ABS 42: trail: the reference's paths -/
def oF (o : Option Int64) : Int32 := if o.isSome then 1 else 0
def Rv (h : dnH) (W : Nat → Option Int64) : Prop := ∀ y, y < 12 → h.2.1 304 y = oF (W y) ∧ h.2.2.1 303 y = (W y).getD 0
def enc (h : dnH) (x : Nat) (o : Option Int64) : Prop := h.2.1 306 x = oF o ∧ h.2.2.1 305 x = o.getD 0
theorem oF_1 {o : Option Int64} : oF o = 1 ↔ o.isSome = true := by cases o <;> simp [oF]
theorem set306 {h0 h : dnH} {X : List Nat} {A : Ab} (c : RS h0 X h A) (i : Nat) (w : Int32) : RS h0 X (dnSI h 306 i w) A := c.fr (eqc_SI (by unfold Pn; decide)) ⟨rfl, (by simp [dnSI, dnUp]), (by simp [dnSI, dnUp]), (by simp [dnSI, dnUp]), (by simp [dnSI, dnUp])⟩
theorem set304 {h0 h : dnH} {X : List Nat} {A : Ab} (c : RS h0 X h A) (i : Nat) (w : Int32) : RS h0 X (dnSI h 304 i w) A := c.fr (eqc_SI (by unfold Pn; decide)) ⟨rfl, (by simp [dnSI, dnUp]), (by simp [dnSI, dnUp]), (by simp [dnSI, dnUp]), (by simp [dnSI, dnUp])⟩
theorem set305 {h0 h : dnH} {X : List Nat} {A : Ab} (c : RS h0 X h A) (i : Nat) (w : Int64) : RS h0 X (dnSL h 305 i w) A := c.fr (eqc_SL (by unfold Pn; decide)) ⟨(by simp [dnSL, dnUp]), rfl, rfl, rfl, rfl⟩
theorem set303 {h0 h : dnH} {X : List Nat} {A : Ab} (c : RS h0 X h A) (i : Nat) (w : Int64) : RS h0 X (dnSL h 303 i w) A := c.fr (eqc_SL (by unfold Pn; decide)) ⟨(by simp [dnSL, dnUp]), rfl, rfl, rfl, rfl⟩
/-- all but the two temporary places of x -/
def TFr (x : Nat) (h h2 : dnH) : Prop := (∀ y, h2.2.1 304 y = h.2.1 304 y) ∧ (∀ y, h2.2.2.1 303 y = h.2.2.1 303 y) ∧ ∀ y, y ≠ x → h2.2.1 306 y = h.2.1 306 y ∧ h2.2.2.1 305 y = h.2.2.1 305 y
theorem TFr.rf {x : Nat} {h : dnH} : TFr x h h := ⟨fun _ => rfl, fun _ => rfl, fun _ _ => ⟨rfl, rfl⟩⟩
theorem TFr.tr {x : Nat} {h h2 h3 : dnH} (a : TFr x h h2) (b : TFr x h2 h3) : TFr x h h3 := ⟨fun y => (b.1 y).trans (a.1 y), fun y => (b.2.1 y).trans (a.2.1 y), fun y hy => ⟨(b.2.2 y hy).1.trans (a.2.2 y hy).1, (b.2.2 y hy).2.trans (a.2.2 y hy).2⟩⟩
theorem TFr.rv {x : Nat} {h h2 : dnH} {W : Nat → Option Int64} (a : TFr x h h2) (r : Rv h W) : Rv h2 W := fun y hy => ⟨(a.1 y).trans (r y hy).1, (a.2.1 y).trans (r y hy).2⟩
theorem turn_r {q0 h : dnH} {A : Ab} {r x y : Nat} {W : Nat → Option Int64} {o : Option Int64} (c : RS q0 [] h A) (hr : r < 31) (hl : live [] A r) (hn : (A.2.2.1 r).2.1 ≤ 12) (hx : x < 12) (hy : y < 12) (hyx : y ≤ x + 1) (rv : Rv h W) (e : enc h x o) : ∃ h2, fX13_trails_b45 (some 289) (nI r) false (nI x) (nI y) h = some (.inl (nI (y + 1)), h2) ∧ RS q0 [] h2 A ∧ TFr x h h2 ∧ enc h2 x (mxO o (if x < (A.2.2.1 r).2.1 then W y else none)) := by
  have y1 : ¬ (nI (x + 1) < nI y) := fun hc => by have := (nI_ltI (a := x + 1) (b := y) (by omega) (by omega)).mp hc; omega
  have hin : inB (nI y) 0 11 = true := inB_nI (n := 11) (by decide) (by omega)
  have le : (nI (A.2.2.1 r).2.1 ≤ nI x) ↔ ¬ x < (A.2.2.1 r).2.1 := by rw [nI_leI (by omega) (by omega)]; omega
  have i1 := dnIn_nI (show y < 12 by omega) (by decide)
  have i2 : (nI y).toNatClampNeg = y := nI_clamp (by omega)
  have j1 := dnIn_nI (show x < 12 by omega) (by decide)
  have j2 : (nI x).toNatClampNeg = x := nI_clamp (by omega)
  by_cases q : x < (A.2.2.1 r).2.1
  · have nq : ¬ (nI (A.2.2.1 r).2.1 ≤ nI x) := fun hc => le.mp hc q
    rw [if_pos q]
    obtain ⟨v1, v2⟩ := rv y hy
    cases hw : W y with
    | none =>
      rw [hw] at v1
      have v1 : h.2.1 304 y = 0 := v1
      rw [mxO_n]
      refine ⟨h, ?_, c, TFr.rf, e⟩
      simp only [fX13_trails_b45, fX13_trails_j135, nI_1, y1, Bool.false_eq_true, if_false, dnB_eval, g_289_7 c.1, len_A c hr hl, nq, r_in, hin, dnP, if_true, g_289_23 c.1, a_304 c.1, i1, i2, v1, show ¬ (0 : Int32) = 1 by decide, not_false_eq_true]
    | some v =>
      rw [hw] at v1 v2
      have v1 : h.2.1 304 y = 1 := v1
      have v2 : h.2.2.1 303 y = v := v2
      obtain ⟨o1, o2⟩ := e
      have put : ∃ h2, fX13_trails_j115 (some 289) (nI r) false (nI x) (nI y) h = some (.inl (nI (y + 1)), h2) ∧ RS q0 [] h2 A ∧ TFr x h h2 ∧ enc h2 x (some v) := by
        have c1 := set306 c x 1
        have c2 := set305 c1 x v
        have v3 : (dnSI h 306 x 1).2.2.1 303 y = v := v2
        refine ⟨_, ?_, c2, ⟨fun z => by simp [dnSI, dnSL, dnSD, dnUp], fun z => by simp [dnSI, dnSL, dnSD, dnUp], fun z hz => ⟨by simp [dnSI, dnSL, dnUp, hz], by simp [dnSI, dnSL, dnUp, hz]⟩⟩, ⟨?_, ?_⟩⟩
        · simp only [fX13_trails_j115, fX13_trails_j135, dnB_eval, g_289_25 c.1, t_306 c.1, j1, j2, if_true, g_289_24 c1.1, g_289_22 c1.1, a_303 c1.1, i1, i2, v3, t_305 c1.1, dnP, nI_1]
        · show _ = (1 : Int32)
          simp [dnSI, dnSL, dnSD, dnUp]
        · show _ = v
          simp [dnSI, dnSL, dnSD, dnUp]
      cases o with
      | none =>
        have o1 : h.2.1 306 x = 0 := o1
        obtain ⟨h2, p1, p2, p3, p4⟩ := put
        refine ⟨h2, ?_, p2, p3, p4⟩
        rw [← p1]
        simp only [fX13_trails_b45, nI_1, y1, Bool.false_eq_true, if_false, dnB_eval, g_289_7 c.1, len_A c hr hl, nq, r_in, hin, dnP, if_true, g_289_23 c.1, a_304 c.1, i1, i2, v1, not_true_eq_false, g_289_25 c.1, a_306 c.1, j1, j2, o1]
      | some u =>
        have o1' : h.2.1 306 x = 1 := o1
        have o2' : h.2.2.1 305 x = u := o2
        by_cases qv : u < v
        · obtain ⟨h2, p1, p2, p3, p4⟩ := put
          refine ⟨h2, ?_, p2, p3, by show enc h2 x (some (if u < v then v else u)); rw [if_pos qv]; exact p4⟩
          rw [← p1]
          have z : ¬ lg_cmp v u ≤ 0 := by rw [lg_cmp_le]; exact Int64.not_le.mpr qv
          simp only [fX13_trails_b45, nI_1, y1, Bool.false_eq_true, if_false, dnB_eval, g_289_7 c.1, len_A c hr hl, nq, r_in, hin, dnP, if_true, g_289_23 c.1, a_304 c.1, i1, i2, v1, not_true_eq_false, g_289_25 c.1, a_306 c.1, j1, j2, o1', show ¬ (1 : Int32) = 0 by decide, g_289_22 c.1, a_303 c.1, v2, g_289_24 c.1, a_305 c.1, o2', z]
        · refine ⟨h, ?_, c, TFr.rf, by show enc h x (some (if u < v then v else u)); rw [if_neg qv]; exact ⟨o1, o2⟩⟩
          have z : lg_cmp v u ≤ 0 := by rw [lg_cmp_le]; exact Int64.not_lt.mp qv
          simp only [fX13_trails_b45, fX13_trails_j135, nI_1, y1, Bool.false_eq_true, if_false, dnB_eval, g_289_7 c.1, len_A c hr hl, nq, r_in, hin, dnP, if_true, g_289_23 c.1, a_304 c.1, i1, i2, v1, not_true_eq_false, g_289_25 c.1, a_306 c.1, j1, j2, o1', show ¬ (1 : Int32) = 0 by decide, g_289_22 c.1, a_303 c.1, v2, g_289_24 c.1, a_305 c.1, o2', z]
  · have nq := le.mpr q
    rw [if_neg q, mxO_n]
    refine ⟨h, ?_, c, TFr.rf, e⟩
    simp only [fX13_trails_b45, fX13_trails_j135, nI_1, y1, Bool.false_eq_true, if_false, dnB_eval, g_289_7 c.1, len_A c hr hl, nq, if_true, dnP]

theorem near_r {q0 h : dnH} {A : Ab} {r x : Nat} {W : Nat → Option Int64} (c : RS q0 [] h A) (hr : r < 31) (hl : live [] A r) (hn : (A.2.2.1 r).2.1 ≤ 12) (hx : x < 12) (hW : ∀ y, 12 ≤ y → W y = none) (rv : Rv h W) (e : enc h x none) : ∃ h2, dnIt 1000 (fX13_trails_b45 (some 289) (nI r) false (nI x)) (nI x - 1) h = some ((), h2) ∧ RS q0 [] h2 A ∧ TFr x h h2 ∧ enc h2 x (if x < (A.2.2.1 r).2.1 then nr W x else none) := by
  let U : Nat → Option Int64 := fun y => if x < (A.2.2.1 r).2.1 then W y else none
  let acc : Nat → Option Int64 := fun j => if j = 0 then none else if j = 1 then (if x = 0 then none else U (x - 1)) else if j = 2 then mxO (if x = 0 then none else U (x - 1)) (U x) else mxO (mxO (if x = 0 then none else U (x - 1)) (U x)) (U (x + 1))
  let st : Nat → Int32 := fun j => if j = 0 then nI x - 1 else nI (x + j - 1)
  have le : (nI (A.2.2.1 r).2.1 ≤ nI x) ↔ ¬ x < (A.2.2.1 r).2.1 := by rw [nI_leI (by omega) (by omega)]; omega
  have skip : ∀ k s, RS q0 [] k A → ¬ (nI (x + 1) < s) → inB s 0 11 = false → fX13_trails_b45 (some 289) (nI r) false (nI x) s k = some (.inl (s + 1), k) := fun k s ck y1 hin => by
    by_cases q : x < (A.2.2.1 r).2.1
    · have nq : ¬ (nI (A.2.2.1 r).2.1 ≤ nI x) := fun hc => le.mp hc q
      simp only [fX13_trails_b45, fX13_trails_j135, nI_1, y1, Bool.false_eq_true, if_false, dnB_eval, g_289_7 ck.1, len_A ck hr hl, nq, r_in, hin, dnP]
    · have nq := le.mpr q
      simp only [fX13_trails_b45, fX13_trails_j135, nI_1, y1, Bool.false_eq_true, if_false, dnB_eval, g_289_7 ck.1, len_A ck hr hl, nq, if_true, dnP]
  have KK := it_inv (f := fX13_trails_b45 (some 289) (nI r) false (nI x)) (Q := fun _ k => RS q0 [] k A ∧ TFr x h k ∧ enc k x (acc 3)) (fun j s k => s = st j ∧ RS q0 [] k A ∧ TFr x h k ∧ enc k x (acc j)) 3 1000 0 (by omega) (by omega) ?_ ?_ (nI x - 1) h ⟨rfl, c, TFr.rf, e⟩
  · obtain ⟨_, h2, b1, c2, t2, e2⟩ := KK
    refine ⟨h2, b1, c2, t2, ?_⟩
    have : acc 3 = if x < (A.2.2.1 r).2.1 then nr W x else none := by
      show mxO (mxO (if x = 0 then none else if x < (A.2.2.1 r).2.1 then W (x - 1) else none) (if x < (A.2.2.1 r).2.1 then W x else none)) (if x < (A.2.2.1 r).2.1 then W (x + 1) else none) = _
      by_cases q : x < (A.2.2.1 r).2.1
      · simp only [q, if_true]
        rfl
      · simp only [q, if_false]
        split <;> rfl
    rw [← this]
    exact e2
  · rintro j s k hj ⟨rfl, ck, tk', ek⟩
    left
    have rvk := tk'.rv rv
    have hj3 : j = 0 ∨ j = 1 ∨ j = 2 := by omega
    rcases hj3 with e0 | e0 | e0
    · subst e0
      by_cases q : x = 0
      · have sk := skip k (nI x - 1) ck (by rw [q]; decide) (by rw [q]; decide)
        refine ⟨nI x - 1 + 1, k, sk, ?_, ck, tk', ?_⟩
        · show _ = nI (x + 1 - 1)
          rw [q]
          rfl
        · show enc k x (if x = 0 then none else U (x - 1))
          rw [if_pos q]
          exact ek
      · obtain ⟨h2, p1, p2, p3, p4⟩ := turn_r (y := x - 1) ck hr hl hn hx (by omega) (by omega) rvk ek
        refine ⟨nI (x - 1 + 1), h2, ?_, ?_, p2, tk'.tr p3, ?_⟩
        · show fX13_trails_b45 (some 289) (nI r) false (nI x) (nI x - 1) k = _
          rw [nI_sub1 (by omega)]
          exact p1
        · show _ = nI (x + 1 - 1)
          rw [show x - 1 + 1 = x + 1 - 1 by omega]
        · show enc h2 x (if x = 0 then none else U (x - 1))
          rw [if_neg q]
          exact p4
    · subst e0
      obtain ⟨h2, p1, p2, p3, p4⟩ := turn_r (y := x) ck hr hl hn hx (by omega) (by omega) rvk ek
      exact ⟨nI (x + 1), h2, p1, rfl, p2, tk'.tr p3, p4⟩
    · subst e0
      by_cases q : x + 1 < 12
      · obtain ⟨h2, p1, p2, p3, p4⟩ := turn_r (y := x + 1) ck hr hl hn hx q (by omega) rvk ek
        exact ⟨nI (x + 1 + 1), h2, p1, rfl, p2, tk'.tr p3, p4⟩
      · have hx11 : x = 11 := by omega
        have sk := skip k (nI (x + 1)) ck (fun hc => by have := (nI_ltI (a := x + 1) (b := x + 1) (by omega) (by omega)).mp hc; omega) (by rw [hx11]; decide)
        refine ⟨nI (x + 1) + 1, k, sk, nI_1 _, ck, tk', ?_⟩
        have : acc 3 = acc 2 := by
          show mxO (mxO (if x = 0 then none else U (x - 1)) (U x)) (if x < (A.2.2.1 r).2.1 then W (x + 1) else none) = mxO (if x = 0 then none else U (x - 1)) (U x)
          rw [hW (x + 1) (by omega)]
          simp only [ite_self, mxO_n]
        rw [this]
        exact ek
  · rintro s k ⟨rfl, ck, tk', ek⟩
    have y1 : nI (x + 1) < nI (x + 2) := (nI_ltI (by omega) (by omega)).mpr (by omega)
    have y1 : nI (x + 1) < st 3 := y1
    exact ⟨(), k, by simp only [fX13_trails_b45, nI_1, y1, if_true, dnP], ck, tk', ek⟩
def Tm (f : Bool) (W : Nat → Option Int64) (R : Rw) (x : Nat) : Option Int64 := if x < R.2.1 then (if f then some 0 else nr W x) else none
theorem nxW_Tm {f : Bool} {W : Nat → Option Int64} {R : Rw} {x : Nat} : nxW f W R x = (Tm f W R x).map (fun v => v + (R.2.2 x).2.1) := by
  unfold nxW Tm
  split <;> rfl
theorem trails_A {q0 h : dnH} {A : Ab} {r : Nat} {W : Nat → Option Int64} {f : Bool} (c : RS q0 [] h A) (hr : r < 31) (hl : live [] A r) (hn : (A.2.2.1 r).2.1 ≤ 12) (hW : ∀ y, 12 ≤ y → W y = none) (rv : f = false → Rv h W) : ∃ h2, fX13_trails (some 289) (nI r) f h = some ((), h2) ∧ RS q0 [] h2 A ∧ Rv h2 (nxW f W (A.2.2.1 r)) := by
  have KK := it_inv (f := fX13_trails_b2 (some 289) (nI r) f) (Q := fun _ k => RS q0 [] k A ∧ ∀ z, z < 12 → enc k z (Tm f W (A.2.2.1 r) z)) (fun j s k => s = nI j ∧ RS q0 [] k A ∧ (f = false → Rv k W) ∧ ∀ z, z < j → enc k z (Tm f W (A.2.2.1 r) z)) 12 1000 0 (by omega) (by omega) ?_ ?_ (nI 0) h ⟨rfl, c, rv, fun z hz => by omega⟩
  · obtain ⟨_, k1, b1, c1, e1⟩ := KK
    rw [nI_0] at b1
    have KK := it_inv (f := fX13_trails_b149 (some 289) (nI r)) (Q := fun _ k => RS q0 [] k A ∧ Rv k (nxW f W (A.2.2.1 r))) (fun j s k => s = nI j ∧ RS q0 [] k A ∧ (∀ z, z < 12 → enc k z (Tm f W (A.2.2.1 r) z)) ∧ ∀ z, z < j → k.2.1 304 z = oF (nxW f W (A.2.2.1 r) z) ∧ k.2.2.1 303 z = (nxW f W (A.2.2.1 r) z).getD 0) 12 1000 0 (by omega) (by omega) ?_ ?_ (nI 0) k1 ⟨rfl, c1, e1, fun z hz => by omega⟩
    · obtain ⟨_, k2, b2, c2, e2⟩ := KK
      rw [nI_0] at b2
      exact ⟨k2, by simp only [fX13_trails, dnB_eval, b1, b2, dnP], c2, e2⟩
    · rintro j s k hj ⟨rfl, ck, ek, gk⟩
      left
      have hc : ¬ ((12 : Int32) ≤ nI j) := fun hc => by have := (nI_leI (a := 12) (b := j) (by omega) (by omega)).mp hc; omega
      have i1 := dnIn_nI hj (by decide)
      have i2 : (nI j).toNatClampNeg = j := nI_clamp (by omega)
      obtain ⟨o1, o2⟩ := ek j hj
      have c1 := set304 ck j (oF (Tm f W (A.2.2.1 r) j))
      have o3 : (dnSI k 304 j (oF (Tm f W (A.2.2.1 r) j))).2.1 306 j = oF (Tm f W (A.2.2.1 r) j) := o1 ▸ by simp [dnSI, dnSL, dnSD, dnUp]
      have o4 : (dnSI k 304 j (oF (Tm f W (A.2.2.1 r) j))).2.2.1 305 j = (Tm f W (A.2.2.1 r) j).getD 0 := o2
      have c2 := set303 c1 j ((nxW f W (A.2.2.1 r) j).getD 0)
      have nm := num_A c1 hr hl hj
      refine ⟨nI (j + 1), dnSL (dnSI k 304 j (oF (Tm f W (A.2.2.1 r) j))) 303 j ((nxW f W (A.2.2.1 r) j).getD 0), ?_, rfl, c2, fun z hz => ⟨?_, ?_⟩, fun z hz => ?_⟩
      · cases ht : Tm f W (A.2.2.1 r) j with
        | none =>
          rw [ht] at o1 o3 o4 c1 nm
          have en : nxW f W (A.2.2.1 r) j = none := by rw [nxW_Tm, ht]; rfl
          rw [en]
          have o1 : k.2.1 306 j = 0 := o1
          have e0 : oF none = 0 := rfl
          rw [e0] at o3 c1 ⊢
          simp only [fX13_trails_b149, fX13_trails_j204, hc, if_false, dnB_eval, g_289_23 ck.1, g_289_25 ck.1, a_306 ck.1, i1, i2, if_true, o1, t_304 ck.1, g_289_22 c1.1, g_289_25 c1.1, a_306 c1.1, o3, show ¬ (0 : Int32) = 1 by decide, not_false_eq_true, t_303 c1.1, dnP, nI_1, Option.getD]
        | some v =>
          rw [ht] at o1 o3 o4 c1 nm
          have en : nxW f W (A.2.2.1 r) j = some (v + ((A.2.2.1 r).2.2 j).2.1) := by rw [nxW_Tm, ht]; rfl
          rw [en]
          have o1 : k.2.1 306 j = 1 := o1
          have e0 : oF (some v) = 1 := rfl
          rw [e0] at o3 o4 c1 nm ⊢
          have o4 : (dnSI k 304 j 1).2.2.1 305 j = v := o4
          simp only [fX13_trails_b149, fX13_trails_j204, hc, if_false, dnB_eval, g_289_23 ck.1, g_289_25 ck.1, a_306 ck.1, i1, i2, if_true, o1, t_304 ck.1, g_289_22 c1.1, g_289_25 c1.1, a_306 c1.1, o3, not_true_eq_false, g_289_24 c1.1, a_305 c1.1, o4, g_289_10 c1.1, at_r, nm, t_303 c1.1, dnP, nI_1, Option.getD]
      · rw [← (ek z hz).1]
        simp [dnSI, dnSL, dnSD, dnUp]
      · rw [← (ek z hz).2]
        simp [dnSI, dnSL, dnSD, dnUp]
      · by_cases q : z = j
        · subst q
          refine ⟨?_, by simp [dnSI, dnSL, dnSD, dnUp]⟩
          have : oF (nxW f W (A.2.2.1 r) z) = oF (Tm f W (A.2.2.1 r) z) := by rw [nxW_Tm]; cases Tm f W (A.2.2.1 r) z <;> rfl
          rw [this]
          simp [dnSI, dnSL, dnSD, dnUp]
        · obtain ⟨g1, g2⟩ := gk z (by omega)
          rw [← g1, ← g2]
          exact ⟨by simp [dnSI, dnSL, dnUp, q], by simp [dnSI, dnSL, dnUp, q]⟩
    · rintro s k ⟨rfl, ck, ek, gk⟩
      exact ⟨(), k, by simp only [fX13_trails_b149, show (12 : Int32) ≤ nI 12 by decide, if_true, dnP], ck, gk⟩
  · rintro j s k hj ⟨rfl, ck, rk, ek⟩
    left
    have hc : ¬ ((12 : Int32) ≤ nI j) := fun hc => by have := (nI_leI (a := 12) (b := j) (by omega) (by omega)).mp hc; omega
    have i1 := dnIn_nI hj (by decide)
    have i2 : (nI j).toNatClampNeg = j := nI_clamp (by omega)
    have le : (nI (A.2.2.1 r).2.1 ≤ nI j) ↔ ¬ j < (A.2.2.1 r).2.1 := by rw [nI_leI (by omega) (by omega)]; omega
    have ini : ∀ b : Bool, RS q0 [] (dnSL (dnSI k 306 j (dnZ b)) 305 j 0) A ∧ TFr j k (dnSL (dnSI k 306 j (dnZ b)) 305 j 0) ∧ enc (dnSL (dnSI k 306 j (dnZ b)) 305 j 0) j (if b then some 0 else none) := fun b => by
      refine ⟨set305 (set306 ck j _) j 0, ⟨fun z => by simp [dnSI, dnSL, dnSD, dnUp], fun z => by simp [dnSI, dnSL, dnSD, dnUp], fun z hz => ⟨by simp [dnSI, dnSL, dnUp, hz], by simp [dnSI, dnSL, dnUp, hz]⟩⟩, ?_, ?_⟩
      · have : oF (if b then some 0 else none) = dnZ b := by cases b <;> rfl
        rw [this]
        simp [dnSI, dnSL, dnSD, dnUp]
      · have : (if b then some (0 : Int64) else none).getD 0 = 0 := by cases b <;> rfl
        rw [this]
        simp [dnSI, dnSL, dnSD, dnUp]
    have keep : ∀ k2, TFr j k k2 → enc k2 j (Tm f W (A.2.2.1 r) j) → ∀ z, z < j + 1 → enc k2 z (Tm f W (A.2.2.1 r) z) := fun k2 t2 e2 z hz => by
      by_cases q : z = j
      · rw [q]; exact e2
      · obtain ⟨u1, u2⟩ := t2.2.2 z q
        exact ⟨u1.trans (ek z (by omega)).1, u2.trans (ek z (by omega)).2⟩
    cases f with
    | true =>
      have ex : ∀ k2, dnIt 1000 (fX13_trails_b45 (some 289) (nI r) true (nI j)) (nI j - 1) k2 = some ((), k2) := fun k2 => by
        refine dnIt_run (f := fX13_trails_b45 (some 289) (nI r) true (nI j)) (q := ()) (hq := k2) 0 1000 (fun _ => (nI j - 1, k2)) (by omega) (fun i hi => by omega) ?_
        simp only [fX13_trails_b45, if_true, dnP]
        split <;> rfl
      by_cases q : j < (A.2.2.1 r).2.1
      · have nq : ¬ (nI (A.2.2.1 r).2.1 ≤ nI j) := fun hc => le.mp hc q
        obtain ⟨v1, v2, v3⟩ := ini true
        refine ⟨nI (j + 1), _, ?_, rfl, v1, fun hq => (by cases hq), keep _ v2 (by unfold Tm; rw [if_pos q]; exact v3)⟩
        have s1 : Sh (dnSI k 306 j (dnZ true)) := ck.1
        simp only [fX13_trails_b2, fX13_trails_j32, fX13_trails_j141, hc, if_false, dnB_eval, g_289_25 ck.1, if_true, g_289_7 ck.1, len_A ck hr hl, nq, t_306 ck.1, i1, i2, g_289_24 s1, t_305 s1, ex, dnP, nI_1]
      · have nq := le.mpr q
        obtain ⟨v1, v2, v3⟩ := ini false
        refine ⟨nI (j + 1), _, ?_, rfl, v1, fun hq => (by cases hq), keep _ v2 (by unfold Tm; rw [if_neg q]; exact v3)⟩
        have s1 : Sh (dnSI k 306 j (dnZ false)) := ck.1
        simp only [fX13_trails_b2, fX13_trails_j31, fX13_trails_j32, fX13_trails_j141, hc, if_false, dnB_eval, g_289_25 ck.1, if_true, g_289_7 ck.1, len_A ck hr hl, nq, t_306 ck.1, i1, i2, g_289_24 s1, t_305 s1, ex, dnP, nI_1]
    | false =>
      obtain ⟨v1, v2, v3⟩ := ini false
      obtain ⟨k2, n1, n2, n3, n4⟩ := near_r v1 hr hl hn hj hW (v2.rv (rk rfl)) v3
      have t3 := v2.tr n3
      refine ⟨nI (j + 1), k2, ?_, rfl, n2, fun _ => t3.rv (rk rfl), keep _ t3 n4⟩
      have s1 : Sh (dnSI k 306 j (dnZ false)) := ck.1
      simp only [fX13_trails_b2, fX13_trails_j31, fX13_trails_j32, fX13_trails_j141, hc, if_false, dnB_eval, g_289_25 ck.1, Bool.false_eq_true, t_306 ck.1, i1, i2, if_true, g_289_24 s1, t_305 s1, n1, dnP, nI_1]
  · rintro s k ⟨rfl, ck, rk, ek⟩
    exact ⟨(), k, by simp only [fX13_trails_b2, show (12 : Int32) ≤ nI 12 by decide, if_true, dnP], ck, ek⟩
