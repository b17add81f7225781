/-! ABS 41: trail: paths over rows; the class's -/
def mxO : Option Int64 → Option Int64 → Option Int64
  | none, b => b
  | some x, none => some x
  | some x, some y => some (if x < y then y else x)
theorem mxO_n (a : Option Int64) : mxO a none = a := by cases a <;> rfl
def mxR (W : Nat → Option Int64) (a : Nat) : Nat → Option Int64
  | 0 => none
  | n + 1 => mxO (mxR W a n) (W (a + n))
theorem mxR_ext {W : Nat → Option Int64} {a n : Nat} (h : ∀ y, a + n ≤ y → W y = none) : ∀ d, mxR W a (n + d) = mxR W a n := by
  intro d
  induction d with
  | zero => rfl
  | succ d ih =>
    show mxO (mxR W a (n + d)) (W (a + (n + d))) = _
    rw [h _ (by omega), mxO_n, ih]
def nr (W : Nat → Option Int64) (x : Nat) : Option Int64 := mxO (mxO (if x = 0 then none else W (x - 1)) (W x)) (W (x + 1))
theorem nr_mx {W : Nat → Option Int64} {x wd : Nat} (h : ∀ y, wd ≤ y → W y = none) : mxR W (x - 1) (min (x + 2) wd - (x - 1)) = nr W x := by
  have key : mxR W (x - 1) (min (x + 2) wd - (x - 1)) = mxR W (x - 1) (x + 2 - (x - 1)) := by
    by_cases q : x + 2 ≤ wd
    · rw [Nat.min_eq_left q]
    · rw [Nat.min_eq_right (by omega), ← mxR_ext (W := W) (a := x - 1) (n := wd - (x - 1)) (fun y hy => h y (by omega)) (x + 2 - (x - 1) - (wd - (x - 1))), show wd - (x - 1) + (x + 2 - (x - 1) - (wd - (x - 1))) = x + 2 - (x - 1) by omega]
  rw [key]
  unfold nr
  by_cases q : x = 0
  · subst q
    rfl
  · rw [if_neg q, show x + 2 - (x - 1) = 3 by omega]
    show mxO (mxO (mxO none (W (x - 1 + 0))) (W (x - 1 + 1))) (W (x - 1 + 2)) = _
    rw [show x - 1 + 0 = x - 1 by omega, show x - 1 + 1 = x by omega, show x - 1 + 2 = x + 1 by omega]
    rfl
/-- what is kept of a path's sum, of at most t rows -/
def bdO (t : Nat) (o : Option Int64) : Prop := ∀ v, o = some v → -((t : Int) * 2 ^ 31) ≤ v.toInt ∧ v.toInt ≤ (t : Int) * 2 ^ 31
theorem bdO.mx {t : Nat} {a b : Option Int64} (ha : bdO t a) (hb : bdO t b) : bdO t (mxO a b) := by
  intro v hv
  cases a with
  | none => exact hb v hv
  | some x =>
    cases b with
    | none => exact ha v hv
    | some y =>
      have hv : some (if x < y then y else x) = some v := hv
      split at hv
      · cases hv; exact hb _ rfl
      · cases hv; exact ha _ rfl
theorem bd_gt {t : Nat} {v : Int64} (ht : t ≤ 6) (h : bdO t (some v)) : (-1152921504606846976 : Int64) < v := by
  obtain ⟨h1, h2⟩ := h v rfl
  rw [Int64.lt_iff_toInt_lt, show ((-1152921504606846976 : Int64)).toInt = -1152921504606846976 by decide]
  have : (t : Int) * 2 ^ 31 ≤ 6 * 2 ^ 31 := by omega
  omega
theorem mx_get {t : Nat} {a b : Option Int64} (ht : t ≤ 6) (ha : bdO t a) (hb : bdO t b) (k : dnH) : fJ9_max_f86c9 (a.getD (-1152921504606846976 : Int64)) (b.getD (-1152921504606846976 : Int64)) k = some ((mxO a b).getD (-1152921504606846976 : Int64), k) := by
  unfold fJ9_max_f86c9
  simp only [lg_cmp_lt]
  cases a with
  | none =>
    cases b with
    | none => rfl
    | some y =>
      have := bd_gt ht hb
      simp only [Option.getD, this, if_true, dnP, mxO]
  | some x =>
    cases b with
    | none =>
      have := bd_gt ht ha
      have : ¬ x < (-1152921504606846976 : Int64) := Int64.not_lt.mpr (Int64.le_of_lt this)
      simp only [Option.getD, this, if_false, dnP, mxO]
    | some y =>
      simp only [Option.getD, mxO]
      split <;> rfl
theorem bdO_mxR {t : Nat} {W : Nat → Option Int64} (h : ∀ y, bdO t (W y)) (a : Nat) : ∀ n, bdO t (mxR W a n) := by
  intro n
  induction n with
  | zero => intro v hv; cases hv
  | succ n ih => exact ih.mx (h _)
def Pv (h : dnH) (p wd : Nat) (W : Nat → Option Int64) : Prop := ∀ y, y < wd → h.2.2.1 p y = (W y).getD (-1152921504606846976 : Int64)
theorem max0 {x : Nat} (hx : x < 12) (k : dnH) : fJ9_max_7cf53 0 (nI x - 1) k = some (nI (x - 1), k) := by
  unfold fJ9_max_7cf53
  by_cases q : x ≤ 1
  · have : ¬ (0 : Int32) < nI x - 1 := by
      have : x = 0 ∨ x = 1 := by omega
      rcases this with e | e <;> rw [e] <;> decide
    rw [if_neg this, show x - 1 = 0 by omega]
    rfl
  · have z : (0 : Int32) < nI (x - 1) := (nI_ltI (a := 0) (b := x - 1) (by omega) (by omega)).mpr (by omega)
    rw [nI_sub1 (by omega), if_pos z]
    rfl
theorem bestNear_A {t x wd : Nat} {h : dnH} {W : Nat → Option Int64} (hs : Sh h) (ht : t ≤ 6) (hx : x < 12) (hw : wd ≤ 12) (hW : ∀ y, wd ≤ y → W y = none) (hb : ∀ y, bdO t (W y)) (hp : Pv h 272 wd W) : fX7_bestNear (some 270) (nI x) (nI wd) h = some ((nr W x).getD (-1152921504606846976 : Int64), h) := by
  rw [← nr_mx hW]
  have key := dnIt_run (f := fX7_bestNear_b13 (some 270) (nI x) (nI wd)) (q := (mxR W (x - 1) (min (x + 2) wd - (x - 1))).getD (-1152921504606846976 : Int64)) (hq := h) (min (x + 2) wd - (x - 1)) 1000 (fun j => (((mxR W (x - 1) j).getD (-1152921504606846976 : Int64), nI (x - 1 + j)), h)) (by omega) (fun j hj => by
    have y1 : ¬ (nI (x + 1) < nI (x - 1 + j)) := fun hc => by have := (nI_ltI (a := x + 1) (b := x - 1 + j) (by omega) (by omega)).mp hc; omega
    have y2 : ¬ (nI wd ≤ nI (x - 1 + j)) := fun hc => by have := (nI_leI (a := wd) (b := x - 1 + j) (by omega) (by omega)).mp hc; omega
    have i1 := dnIn_nI (show x - 1 + j < 12 by omega) (by decide)
    have i2 : (nI (x - 1 + j)).toNatClampNeg = x - 1 + j := nI_clamp (by omega)
    have mg := mx_get ht (bdO_mxR hb (x - 1) j) (hb (x - 1 + j)) h
    show _ = some (Sum.inl ((mxO (mxR W (x - 1) j) (W (x - 1 + j))).getD (-1152921504606846976 : Int64), nI (x - 1 + (j + 1))), h)
    simp only [fX7_bestNear_b13, nI_1, y1, y2, if_false, dnB_eval, g_270_3 hs, a_272 hs, i1, i2, if_true, hp _ (show x - 1 + j < wd by omega), mg, dnP, Nat.add_assoc]) (by
    by_cases q : x + 2 ≤ wd
    · have y1 : nI (x + 1) < nI (x - 1 + (min (x + 2) wd - (x - 1))) := (nI_ltI (by omega) (by omega)).mpr (by omega)
      simp only [fX7_bestNear_b13, nI_1, y1, if_true, dnP]
    · by_cases q1 : nI (x + 1) < nI (x - 1 + (min (x + 2) wd - (x - 1)))
      · simp only [fX7_bestNear_b13, nI_1, q1, if_true, dnP]
      · have y2 : nI wd ≤ nI (x - 1 + (min (x + 2) wd - (x - 1))) := (nI_leI (by omega) (by omega)).mpr (by omega)
        simp only [fX7_bestNear_b13, nI_1, q1, y2, if_true, if_false, dnP])
  have key : dnIt 1000 (fX7_bestNear_b13 (some 270) (nI x) (nI wd)) ((-1152921504606846976 : Int64), nI (x - 1)) h = some (_, h) := key
  simp only [fX7_bestNear, dnB_eval, max0 hx, key, dnP]
def nxW (f : Bool) (W : Nat → Option Int64) (R : Rw) : Nat → Option Int64 := fun x => if x < R.2.1 then ((if f then some 0 else nr W x).map (fun v => v + (R.2.2 x).2.1)) else none
theorem extend_A {B t wd r : Nat} {h0 h : dnH} {A : Ab} {W : Nat → Option Int64} {f : Bool} (c : CS h0 sp0 [] h A) (hr : r < 31) (hl : live [] A r) (ok : rwOk B (A.2.2.1 r)) (ht : t ≤ 6) (hw : wd ≤ 12) (hW : ∀ y, wd ≤ y → W y = none) (hb : ∀ y, bdO t (W y)) (hp : Pv h 271 wd W) : ∃ h2, fX7_extendPaths (some 270) (some (5 + 4 * r)) (!f) (nI wd) h = some ((), h2) ∧ CS h0 sp0 [] h2 A ∧ Pv h2 271 (A.2.2.1 r).2.1 (nxW f W (A.2.2.1 r)) := by
  have N1 := ok.2.1
  have fr : ∀ {k k2 : dnH}, CS h0 sp0 [] k A → Eqc (fun z => z ≤ 258 ∨ 281 ≤ z) k k2 → CS h0 sp0 [] k2 A := fun ck e => ck.fr e
  have cp := cpL (m := 12) (c.1.1 (271, 102, 12) (by decide)) (c.1.1 (272, 102, 12) (by decide)) (by decide)
  generalize hk : (h.1, h.2.1, dnUpA h.2.2.1 272 (fun k => if k < 12 then h.2.2.1 271 k else h.2.2.1 272 k), h.2.2.2) = k1 at cp
  have c1 : CS h0 sp0 [] k1 A := fr c (by
    rw [← hk]
    refine ⟨rfl, rfl, fun x hx => ⟨rfl, ?_, rfl⟩⟩
    show dnUpA h.2.2.1 272 _ x = h.2.2.1 x
    rw [dnUpA_row (by omega)])
  have p2 : Pv k1 272 wd W := fun y hy => by
    rw [← hp y hy, ← hk]
    simp [dnUpA, show y < 12 by omega]
  have KK := it_inv (f := fX7_extendPaths_b18 (some 270) (some (5 + 4 * r)) (!f) (nI wd)) (Q := fun _ k => CS h0 sp0 [] k A ∧ Pv k 271 (A.2.2.1 r).2.1 (nxW f W (A.2.2.1 r))) (fun j s k => s = nI j ∧ CS h0 sp0 [] k A ∧ Pv k 272 wd W ∧ Pv k 271 j (nxW f W (A.2.2.1 r))) (A.2.2.1 r).2.1 1000 0 (by omega) (by omega) ?_ ?_ (nI 0) k1 ⟨rfl, c1, p2, fun y hy => by omega⟩
  · obtain ⟨_, h2, b1, c2, b2⟩ := KK
    rw [nI_0] at b1
    have cp : dnCL (some 271) (some 272) 0 0 12 h = some ((), k1) := cp
    exact ⟨h2, by simp only [fX7_extendPaths, dnB_eval, g_270_2 c.1, g_270_3 c.1, cp, b1, dnP], c2, b2⟩
  · rintro j s k hj ⟨rfl, ck, pk, qk⟩
    left
    have hc : ¬ (nI (A.2.2.1 r).2.1 ≤ nI j) := fun hc => by have := (nI_leI (a := (A.2.2.1 r).2.1) (b := j) (by omega) (by omega)).mp hc; omega
    have rr := ck.row hr hl
    have i1 := dnIn_nI (show j < 12 by omega) (by decide)
    have i2 : (nI j).toNatClampNeg = j := nI_clamp (by omega)
    have bn := bestNear_A ck.1 ht (show j < 12 by omega) hw hW hb pk
    have nm := (rr.2.2 j (by omega)).2.1
    have j42 : ∀ o : Option Int64, bdO t o → fX7_extendPaths_j42 (some 270) (some (5 + 4 * r)) (!f) (nI wd) (nI j) (o.getD (-1152921504606846976 : Int64)) k = some (Sum.inl (nI (j + 1)), dnSL k 271 j ((o.map (fun v => v + ((A.2.2.1 r).2.2 j).2.1)).getD (-1152921504606846976 : Int64))) := fun o ho => by
      cases o with
      | none =>
        have z : ¬ ¬ (((-1152921504606846976 : Int64)) = (-1152921504606846976 : Int64)) := not_not_intro rfl
        simp only [fX7_extendPaths_j42, fX7_extendPaths_j75, Option.getD, Option.map, dnB_eval, g_270_2 ck.1, lg_cmp_eq, not_true_eq_false, if_false, t_271 ck.1, i1, i2, if_true, dnP, nI_1]
      | some v =>
        have g := bd_gt ht ho
        have z : ¬ v = (-1152921504606846976 : Int64) := fun e => by rw [e] at g; exact absurd g (by decide)
        simp only [fX7_extendPaths_j42, fX7_extendPaths_j75, Option.getD, Option.map, dnB_eval, g_270_2 ck.1, lg_cmp_eq, z, not_false_eq_true, if_true, rg_4 (row1 ck.1 hr), ra_2 (row1 ck.1 hr), i1, i2, nm, t_271 ck.1, dnP, nI_1]
    have fin : ∀ v, fX7_extendPaths_b18 (some 270) (some (5 + 4 * r)) (!f) (nI wd) (nI j) k = some (Sum.inl (nI (j + 1)), dnSL k 271 j v) → v = (nxW f W (A.2.2.1 r) j).getD (-1152921504606846976 : Int64) → ∃ s2 h2, fX7_extendPaths_b18 (some 270) (some (5 + 4 * r)) (!f) (nI wd) (nI j) k = some (Sum.inl s2, h2) ∧ s2 = nI (j + 1) ∧ CS h0 sp0 [] h2 A ∧ Pv h2 272 wd W ∧ Pv h2 271 (j + 1) (nxW f W (A.2.2.1 r)) := fun v e1 e2 => by
      refine ⟨_, _, e1, rfl, fr ck (eqc_SL (by omega)), fun y hy => ?_, fun y hy => ?_⟩
      · rw [← pk y hy]
        simp [dnSI, dnSL, dnSD, dnUp]
      · by_cases q : y = j
        · subst q
          rw [← e2]
          simp [dnSI, dnSL, dnSD, dnUp]
        · rw [← qk y (by omega)]
          simp [dnSL, dnUp, q]
    cases f with
    | true =>
      refine fin (((some (0 : Int64)).map (fun v => v + ((A.2.2.1 r).2.2 j).2.1)).getD (-1152921504606846976 : Int64)) ?_ ?_
      · have j0 := j42 (some 0) (fun v hv => by cases hv; exact ⟨by rw [show (0 : Int64).toInt = 0 from rfl]; omega, by rw [show (0 : Int64).toInt = 0 from rfl]; omega⟩)
        have j0 : fX7_extendPaths_j42 (some 270) (some (5 + 4 * r)) (!true) (nI wd) (nI j) 0 k = _ := j0
        rw [← j0]
        simp only [fX7_extendPaths_b18, dnB_eval, rg_i (row1 ck.1 hr), rr.2.1, hc, if_false, Bool.not_true, Bool.false_eq_true]
      · unfold nxW
        rw [if_pos hj]
        rfl
    | false =>
      refine fin (((nr W j).map (fun v => v + ((A.2.2.1 r).2.2 j).2.1)).getD (-1152921504606846976 : Int64)) ?_ ?_
      · have j0 := j42 (nr W j) (by rw [← nr_mx hW]; exact bdO_mxR hb _ _)
        rw [← j0]
        simp only [fX7_extendPaths_b18, dnB_eval, rg_i (row1 ck.1 hr), rr.2.1, hc, if_false, Bool.not_false, if_true, v_270 ck.1, bn]
      · unfold nxW
        rw [if_pos hj]
        rfl
  · rintro s k ⟨rfl, ck, pk, qk⟩
    exact ⟨(), k, by simp only [fX7_extendPaths_b18, dnB_eval, rg_i (row1 ck.1 hr), (ck.row hr hl).2.1, Int32.le_refl, if_true, dnP], ck, qk⟩
