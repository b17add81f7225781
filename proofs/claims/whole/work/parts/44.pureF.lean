/-! PURE 15: a call's end -/
/-- the cells that the class's calls on the store leave; the cells that the reference's calls leave -/
def Pc (a : Nat) : Prop := 281 ≤ a ∨ (129 ≤ a ∧ a ≤ 257)
def Pr (a : Nat) : Prop := a ≤ 288 ∨ a = 290 ∨ 308 ≤ a
theorem stRel_goC {P : Nat → Prop} {B s : Nat} {h h2 : dnH} {r : Vw} (e : Eqc P h h2) (p : ∀ x, s < x → x < s + 128 → P x) (a : stRel B (vS h s) r) : stRel B (vS h2 s) r := by
  obtain ⟨g1, g2, g3⟩ := vS_go (s := s) e p
  obtain ⟨s1, s2, s3, s4⟩ := a
  refine ⟨by rw [g1]; exact s1, by rw [g2]; exact s2, by rw [g1, g2]; exact s3, fun q hq n hn he => ?_⟩
  rw [g2] at he
  obtain ⟨kd, ln, r1, r2, r3, r4, r5, r6, r7⟩ := s4 q hq n hn he
  obtain ⟨t1, t2, t3, t4, t5⟩ := g3 n hn
  exact ⟨kd, ln, r1, r2, t1.trans r3, t2.trans r4, r5, r6, fun i hi => by rw [t3, t4, t5]; exact r7 i hi⟩
theorem vR_go {P : Nat → Prop} {h h2 : dnH} (e : Eqc P h h2) (p : ∀ x, 291 ≤ x → x ≤ 298 → x ≠ 295 → P x) : vR h2 = vR h := by
  unfold vR
  rw [(e.2.2 291 (p _ (by decide) (by decide) (by decide))).1, (e.2.2 292 (p _ (by decide) (by decide) (by decide))).1, (e.2.2 293 (p _ (by decide) (by decide) (by decide))).1, (e.2.2 294 (p _ (by decide) (by decide) (by decide))).1, (e.2.2 296 (p _ (by decide) (by decide) (by decide))).1, (e.2.2 297 (p _ (by decide) (by decide) (by decide))).2.1, (e.2.2 298 (p _ (by decide) (by decide) (by decide))).2.2]
theorem flI_at {h : dnH} {a n k : Nat} {v : Int32} (hk : k < n) : (flI h a n v).2.1 a k = v := by simp [flI, dnUpA, hk]
theorem eqc_cnt {P : Nat → Prop} {h : dnH} {a : Nat} {v : Int32} (hp : ¬ P a) : Eqc P h (cnt h a v) := by
  unfold cnt
  split
  · exact eqc_SI hp
  · exact Eqc.rf
theorem cnt_at {h h2 : dnH} {a b : Nat} {v : Int32} {i : Nat} (e : h.2.1 a i = h2.2.1 b i) (ej : ∀ j, j < 11 → h.2.1 a j = h2.2.1 b j) : (cnt h a v).2.1 a i = (cnt h2 b v).2.1 b i := by
  unfold cnt
  by_cases c : rfd v = true
  · rw [if_pos c, if_pos c]
    show dnUp _ _ _ _ _ _ = dnUp _ _ _ _ _ _
    rw [ej _ (rfd_in c).2]
    unfold dnUp
    by_cases hi : i = (-v).toNatClampNeg
    · rw [if_pos ⟨rfl, hi⟩, if_pos ⟨rfl, hi⟩]
    · rw [if_neg (fun hc => hi hc.2), if_neg (fun hc => hi hc.2), e]
  · rw [if_neg c, if_neg c, e]
theorem close {B B2 : Nat} {h g g2 : dnH} {v : Int32} (a : Rel B h) (hB : B ≤ B2) (e1 : Eqc Pc h g) (e2 : Eqc Pr (cnt g 288 v) g2) (hst : stRel B2 (vS g 1) (vR g2)) (hnum : ∀ r, r < 31 → g.2.1 (5 + 4 * r) 0 = nI r) (hsp : ∀ p, p < 6 → g.2.1 3 (24 + p) = -14) (hnt : g.2.2.1 258 0 = g2.2.2.1 289 1 ∧ g.2.1 258 1 = g2.2.1 289 2 ∧ g.2.1 258 2 = g2.2.1 289 3) (h37 : g2.2.1 289 37 = h.2.1 289 37) (h43 : g2.2.1 289 43 = h.2.1 289 43) : Rel B2 (flI (cnt g2 290 v) 295 32 0) := by
  obtain ⟨a1, a2, a3, a4, a5, a6, a7, a8, a9, b1, b2, b3, b4⟩ := a
  have Q : Nat → Prop := fun _ => True
  have ec : Eqc (fun x => x ≠ 288) g (cnt g 288 v) := eqc_cnt (fun hc => hc rfl)
  have en : Eqc (fun x => x ≠ 290) g2 (cnt g2 290 v) := eqc_cnt (fun hc => hc rfl)
  have ef : Eqc (fun x => x ≠ 295) (cnt g2 290 v) (flI (cnt g2 290 v) 295 32 0) := eqc_flI (fun hc => hc rfl)
  have e3 : Eqc (fun x => x ≠ 290 ∧ x ≠ 295) g2 (flI (cnt g2 290 v) 295 32 0) := (en.im (fun _ hx => hx.1)).tr (ef.im (fun _ hx => hx.2))
  have e4 : Eqc (fun x => (281 ≤ x ∧ x ≤ 287) ∨ 308 ≤ x ∨ x = 257) h (flI (cnt g2 290 v) 295 32 0) :=
    (((e1.im (fun x hx => by unfold Pc; omega)).tr (ec.im (fun x hx => by omega))).tr (e2.im (fun x hx => by unfold Pr; omega))).tr (e3.im (fun x hx => by omega))
  have e5 : Eqc (fun x => x ≤ 287) g (flI (cnt g2 290 v) 295 32 0) :=
    ((ec.im (fun x hx => by omega)).tr (e2.im (fun x hx => by unfold Pr; omega))).tr (e3.im (fun x hx => by omega))
  have r9 : ∀ k, (flI (cnt g2 290 v) 295 32 0).2.1 289 k = g2.2.1 289 k := fun k => congrFun (e3.2.2 289 (by decide)).1 k
  have l9 : ∀ k, (flI (cnt g2 290 v) 295 32 0).2.2.1 289 k = g2.2.2.1 289 k := fun k => congrFun (e3.2.2 289 (by decide)).2.1 k
  refine ⟨e4.sh a1, by rw [e4.1]; exact a2, fun r hr => ?_, fun p hp => ?_, fun r hr => ?_, ?_, ?_, ?_, ?_, ?_, ?_, ?_, b4.go e4⟩
  · rw [(e5.2.2 _ (by omega)).1]; exact hnum r hr
  · rw [(e5.2.2 3 (by decide)).1]; exact hsp p hp
  · exact flI_at hr
  · rw [vR_go e3 (fun x h1 h2 h3 => ⟨by omega, h3⟩)]
    exact stRel_goC e5 (fun x h1 h2 => by omega) hst
  · unfold ntRel
    rw [r9, r9, l9, (e5.2.2 258 (by decide)).1, (e5.2.2 258 (by decide)).2.1]
    exact hnt
  · intro i hi
    have k1 : (flI (cnt g2 290 v) 295 32 0).2.1 288 = (cnt g 288 v).2.1 288 := (e3.2.2 288 (by decide)).1.trans (e2.2.2 288 (by unfold Pr; decide)).1
    have k2 : (flI (cnt g2 290 v) 295 32 0).2.1 290 = (cnt g2 290 v).2.1 290 := (ef.2.2 290 (by decide)).1
    rw [k1, k2]
    have k3 : ∀ j, j < 11 → g.2.1 288 j = g2.2.1 290 j := fun j hj => by
      rw [(e1.2.2 288 (by unfold Pc; decide)).1, (e2.2.2 290 (by unfold Pr; decide)).1, (ec.2.2 290 (by decide)).1, (e1.2.2 290 (by unfold Pc; decide)).1]
      exact a8 j hj
    exact cnt_at (k3 i hi) k3
  · unfold txRel
    rw [r9, h37, (e4.2.2 281 (by decide)).1, (e4.2.2 282 (by decide)).1, (e4.2.2 316 (by decide)).1]
    exact a9
  · unfold gsRel
    rw [r9, h43, (e4.2.2 285 (by decide)).1, (e4.2.2 286 (by decide)).1, (e4.2.2 287 (by decide)).1, (e4.2.2 319 (by decide)).1, (e4.2.2 320 (by decide)).1]
    exact b1
  · exact (b2.go e4 (fun x h1 h2 => by omega) (fun x h1 => by omega)).mono hB
  · exact (b3.go e4 (fun x h1 h2 => by omega) (fun x h1 => by omega)).mono hB
