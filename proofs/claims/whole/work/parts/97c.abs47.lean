/-! ABS 47: block: the class's tries -/
def upB (s : Int32 × Int64) (code : Int32) (v : Int64) : Int32 × Int64 := if s.1 = -9 then (code, v) else if v ≤ s.2 then s else (code, v)
def cod (p x y z : Nat) : Int32 := (((1000000 * nI p) + (10000 * nI x)) + (100 * nI y)) + nI z
theorem cod_nI {p x y z : Nat} : cod p x y z = nI (1000000 * p + 10000 * x + 100 * y + z) := by
  unfold cod
  rw [show (1000000 : Int32) = nI 1000000 from rfl, show (10000 : Int32) = nI 10000 from rfl, show (100 : Int32) = nI 100 from rfl, nI_mul, nI_mul, nI_mul, nI_add, nI_add, nI_add]
theorem cod_9 {p x y z : Nat} (hp : p < 6) (hx : x < 12) (hy : y < 6) (hz : z < 12) : ¬ cod p x y z = -9 := fun e => by
  rw [cod_nI] at e
  exact absurd (show nI (1000000 * p + 10000 * x + 100 * y + z) < 0 by rw [e]; decide) (nI_pos (by omega))
def bz (A : Ab) (G p x y : Nat) (s : Int32 × Int64) : Nat → Int32 × Int64
  | 0 => s
  | n + 1 => upB (bz A G p x y s n) (cod p x y (x + n)) (preS A G p x (y + 1 - p) (n + 1))
/-- what class keeps of the best so far -/
def Bs (h : dnH) (s : Int32 × Int64) : Prop := h.2.1 270 6 = s.1 ∧ (¬ s.1 = -9 → h.2.2.1 270 5 = s.2)
theorem fr270 {h0 h h2 : dnH} {S : Nat → Int32} {X : List Nat} {A : Ab} (c : CS h0 S X h A) {a : Nat} (ha : 259 ≤ a) (ha2 : a ≤ 280) (e : Eqc (fun z => z ≠ a) h h2) : CS h0 S X h2 A := c.fr (e.im (fun z hz => by omega))
theorem tryRow_c {B : Nat} {A : Ab} {G p x y r wd wn : Nat} {h0 h : dnH} {s : Int32 × Int64} (c : CS h0 sp0 [] h A) (hr : r < 31) (hl : live [] A r) (ok : rwOk B (A.2.2.1 r)) (e : gv A (6 * G + y) = some (A.2.2.1 r)) (hp : p ≤ y) (hx : x < 12) (hw : wd ≤ 12) (hwn : wn ≤ wd) (hcol : ∀ z, x ≤ z → z < wd → h.2.2.1 273 z = csS A G p z (y - p)) (hs : Bs h s) : ∃ h2, dnIt 1000 (fX7_tryBlocks_b77 (some 270) (nI G) (nI p) (nI x) (nI wn) (nI y) (some (5 + 4 * r))) (0, nI x) h = some ((), h2) ∧ CS h0 sp0 [] h2 A ∧ (∀ z, x ≤ z → z < wn → h2.2.2.1 273 z = csS A G p z (y + 1 - p)) ∧ Bs h2 (bz A G p x y s (wn - x)) := by
  have ecs : ∀ z, csS A G p z (y + 1 - p) = csS A G p z (y - p) + ((A.2.2.1 r).2.2 z).2.1 := fun z => by
    rw [show y + 1 - p = (y - p) + 1 by omega]
    show csS A G p z (y - p) + nmR (gv A (6 * G + (p + (y - p)))) z = _
    rw [show p + (y - p) = y by omega, e]
    rfl
  have KK := it_inv (f := fX7_tryBlocks_b77 (some 270) (nI G) (nI p) (nI x) (nI wn) (nI y) (some (5 + 4 * r))) (Q := fun _ k => CS h0 sp0 [] k A ∧ (∀ z, x ≤ z → z < wn → k.2.2.1 273 z = csS A G p z (y + 1 - p)) ∧ Bs k (bz A G p x y s (wn - x))) (fun j t k => t = (preS A G p x (y + 1 - p) j, nI (x + j)) ∧ CS h0 sp0 [] k A ∧ (∀ z, x ≤ z → z < x + j → k.2.2.1 273 z = csS A G p z (y + 1 - p)) ∧ (∀ z, x + j ≤ z → z < wd → k.2.2.1 273 z = csS A G p z (y - p)) ∧ Bs k (bz A G p x y s j)) (wn - x) 1000 0 (by omega) (by omega) ?_ ?_ (0, nI x) h ⟨rfl, c, fun z h1 h2 => by omega, hcol, hs⟩
  · obtain ⟨_, h2, b1, b2⟩ := KK
    exact ⟨h2, b1, b2⟩
  · rintro j t k hj ⟨rfl, ck, g1, g2, sk⟩
    left
    have hc : ¬ (nI wn ≤ nI (x + j)) := fun hc => by have := (nI_leI (a := wn) (b := x + j) (by omega) (by omega)).mp hc; omega
    have i1 := dnIn_nI (show x + j < 12 by omega) (by decide)
    have i2 : (nI (x + j)).toNatClampNeg = x + j := nI_clamp (by omega)
    have ej : nI (x + j + 1) = nI (x + (j + 1)) := rfl
    have cj := g2 (x + j) (by omega) (by omega)
    have nm := ((ck.row hr hl).2.2 (x + j) (by omega)).2.1
    have c1 : CS h0 sp0 [] (dnSL k 273 (x + j) (csS A G p (x + j) (y + 1 - p))) A := fr270 ck (by decide) (by decide) (eqc_SL (fun hc => hc rfl))
    have v1 : (dnSL k 273 (x + j) (csS A G p (x + j) (y + 1 - p))).2.2.1 273 (x + j) = csS A G p (x + j) (y + 1 - p) := by simp [dnSI, dnSL, dnSD, dnUp]
    have col1 : ∀ z, x ≤ z → z < x + (j + 1) → (dnSL k 273 (x + j) (csS A G p (x + j) (y + 1 - p))).2.2.1 273 z = csS A G p z (y + 1 - p) := fun z h1 h2 => by
      by_cases q : z = x + j
      · rw [q]; exact v1
      · rw [← g1 z h1 (by omega)]
        simp [dnSL, dnUp, q]
    have col2 : ∀ z, x + (j + 1) ≤ z → z < wd → (dnSL k 273 (x + j) (csS A G p (x + j) (y + 1 - p))).2.2.1 273 z = csS A G p z (y - p) := fun z h1 h2 => by
      rw [← g2 z (by omega) h2]
      simp [dnSL, dnUp, show ¬ z = x + j by omega]
    have s6 : (dnSL k 273 (x + j) (csS A G p (x + j) (y + 1 - p))).2.1 270 6 = (bz A G p x y s j).1 := sk.1
    have s5 : ¬ (bz A G p x y s j).1 = -9 → (dnSL k 273 (x + j) (csS A G p (x + j) (y + 1 - p))).2.2.1 270 5 = (bz A G p x y s j).2 := fun hq => by
      rw [← sk.2 hq]
      simp [dnSI, dnSL, dnSD, dnUp]
    have ep : preS A G p x (y + 1 - p) j + csS A G p (x + j) (y + 1 - p) = preS A G p x (y + 1 - p) (j + 1) := rfl
    have eu : bz A G p x y s (j + 1) = upB (bz A G p x y s j) (cod p x y (x + j)) (preS A G p x (y + 1 - p) (j + 1)) := rfl
    generalize preS A G p x (y + 1 - p) (j + 1) = T at ep eu
    generalize bz A G p x y s j = u at s6 s5 eu
    generalize hk1 : dnSL k 273 (x + j) (csS A G p (x + j) (y + 1 - p)) = k1 at c1 v1 col1 col2 s6 s5
    have t1 : dnTL (some 273) 102 (nI (x + j)) (csS A G p (x + j) (y - p) + ((A.2.2.1 r).2.2 (x + j)).2.1) k = some ((), k1) := by
      rw [← ecs, t_273 ck.1, i1, i2, hk1]
      rfl
    have put : ∃ h2, fX7_tryBlocks_j133 (some 270) (nI G) (nI p) (nI x) (nI wn) (nI y) (some (5 + 4 * r)) T (nI (x + j)) k1 = some (.inl (T, nI (x + (j + 1))), h2) ∧ CS h0 sp0 [] h2 A ∧ (∀ z, x ≤ z → z < x + (j + 1) → h2.2.2.1 273 z = csS A G p z (y + 1 - p)) ∧ (∀ z, x + (j + 1) ≤ z → z < wd → h2.2.2.1 273 z = csS A G p z (y - p)) ∧ Bs h2 (cod p x y (x + j), T) := by
      have c2 : CS h0 sp0 [] (dnSI k1 270 6 (cod p x y (x + j))) A := fr270 c1 (by decide) (by decide) (eqc_SI (fun hc => hc rfl))
      have c3 : CS h0 sp0 [] (dnSL (dnSI k1 270 6 (cod p x y (x + j))) 270 5 T) A := fr270 c2 (by decide) (by decide) (eqc_SL (fun hc => hc rfl))
      refine ⟨_, ?_, c3, fun z h1 h2 => ?_, fun z h1 h2 => ?_, ⟨?_, fun _ => ?_⟩⟩
      · have ec : (1000000 * nI p + 10000 * nI x + 100 * nI y + nI (x + j) : Int32) = cod p x y (x + j) := rfl
        simp only [fX7_tryBlocks_j133, fX7_tryBlocks_j162, ec, dnB_eval, p_270_6 c1.1, p_270_5 c2.1, dnP, nI_1, ej]
      · rw [← col1 z h1 h2]
        simp [dnSI, dnSL, dnSD, dnUp]
      · rw [← col2 z h1 h2]
        simp [dnSI, dnSL, dnSD, dnUp]
      · simp [dnSI, dnSL, dnSD, dnUp]
      · simp [dnSI, dnSL, dnSD, dnUp]
    by_cases q9 : u.1 = -9
    · obtain ⟨h2, x1, x2, x3, x4, x5⟩ := put
      refine ⟨_, h2, ?_, rfl, x2, x3, x4, ?_⟩
      · rw [← x1]
        have s6 : k1.2.1 270 6 = -9 := s6.trans q9
        simp only [fX7_tryBlocks_b77, hc, if_false, dnB_eval, g_270_4 ck.1, a_273 ck.1, i1, i2, if_true, cj, rg_4 (row1 ck.1 hr), ra_2 (row1 ck.1 hr), nm, t1, g_270_4 c1.1, a_273 c1.1, v1, g_270_6 c1.1, s6, ep]
      · rw [eu]
        unfold upB
        rw [if_pos q9]
        exact x5
    · by_cases qv : T ≤ u.2
      · have z : lg_cmp T u.2 ≤ 0 := by rw [lg_cmp_le]; exact qv
        refine ⟨(T, nI (x + (j + 1))), k1, ?_, rfl, c1, col1, col2, ?_⟩
        · simp only [fX7_tryBlocks_b77, fX7_tryBlocks_j162, hc, if_false, dnB_eval, g_270_4 ck.1, a_273 ck.1, i1, i2, if_true, cj, rg_4 (row1 ck.1 hr), ra_2 (row1 ck.1 hr), nm, t1, g_270_4 c1.1, a_273 c1.1, v1, g_270_6 c1.1, s6, q9, g_270_5 c1.1, s5 q9, ep, z, dnP, nI_1, ej]
        · rw [eu]
          unfold upB
          rw [if_neg q9, if_pos qv]
          exact ⟨s6, s5⟩
      · have z : ¬ lg_cmp T u.2 ≤ 0 := by rw [lg_cmp_le]; exact qv
        obtain ⟨h2, x1, x2, x3, x4, x5⟩ := put
        refine ⟨_, h2, ?_, rfl, x2, x3, x4, ?_⟩
        · rw [← x1]
          simp only [fX7_tryBlocks_b77, hc, if_false, dnB_eval, g_270_4 ck.1, a_273 ck.1, i1, i2, if_true, cj, rg_4 (row1 ck.1 hr), ra_2 (row1 ck.1 hr), nm, t1, g_270_4 c1.1, a_273 c1.1, v1, g_270_6 c1.1, s6, q9, g_270_5 c1.1, s5 q9, ep, z]
        · rw [eu]
          unfold upB
          rw [if_neg q9, if_neg qv]
          exact x5
  · rintro t k ⟨rfl, ck, g1, g2, sk⟩
    have hc : nI wn ≤ nI (x + (wn - x)) := (nI_leI (by omega) (by omega)).mpr (by omega)
    exact ⟨(), k, by simp only [fX7_tryBlocks_b77, hc, if_true, dnP], ck, fun z h1 h2 => g1 z h1 (by omega), sk⟩
