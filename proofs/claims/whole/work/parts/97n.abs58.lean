/-! ABS 58: images: views, and what the reference keeps -/
theorem kp1 {h : dnH} {K : Nat} (hs : Sh h) (hK : K < 3) : ∃ h2, dnIt 1000 (fX13_keeps_b9 (some 289) (nI K)) 0 h = some ((), h2) ∧ Eqc (fun x => x ≠ 309) h h2 ∧ ((∀ y, y < 4 → h2.2.1 309 (4 * K + y) = h.2.1 291 (y))) ∧ (∀ y, (y < 4 * K ∨ 4 * K + 4 ≤ y) → h2.2.1 309 y = h.2.1 309 y) := by
  have KK := it_inv (f := fX13_keeps_b9 (some 289) (nI K)) (Q := fun _ k => Eqc (fun x => x ≠ 309) h k ∧ ((∀ y, y < 4 → k.2.1 309 (4 * K + y) = h.2.1 291 (y))) ∧ (∀ y, (y < 4 * K ∨ 4 * K + 4 ≤ y) → k.2.1 309 y = h.2.1 309 y)) (fun j u k => u = nI j ∧ Eqc (fun x => x ≠ 309) h k ∧ ((∀ y, y < j → k.2.1 309 (4 * K + y) = h.2.1 291 (y))) ∧ (∀ y, (y < 4 * K ∨ 4 * K + 4 ≤ y) → k.2.1 309 y = h.2.1 309 y)) 4 1000 0 (by omega) (by omega) ?_ ?_ (nI 0) h ⟨rfl, Eqc.rf, fun y hy => (by omega), fun _ _ => rfl⟩
  · obtain ⟨q, h2, b1, b2⟩ := KK
    exact ⟨h2, b1, b2⟩
  · rintro j u k hj ⟨rfl, ek, fa0, oa0⟩
    left
    have sk := ek.sh hs
    have hc : ¬ ((4 : Int32) ≤ nI j) := fun hc => by have := (nI_leI (a := 4) (b := j) (by omega) (by omega)).mp hc; omega
    have ex : (4 : Int32) * nI K + nI j = nI (4 * K + j) := by rw [show (4 : Int32) = nI 4 from rfl, nI_mul, nI_add]
    have s0 : Sh k := sk
    have se : Eqc (fun x => x ≠ 309) k (dnSI (k) 309 (4 * K + j) ((k).2.1 291 (j))) := (eqc_SI (fun hx => hx rfl))
    refine ⟨nI (j + 1), dnSI (k) 309 (4 * K + j) ((k).2.1 291 (j)), ?_, rfl, ek.tr se, ?_, ?_⟩
    · simp only [fX13_keeps_b9, hc, if_false, if_true, dnB_eval, g_289_29 s0, g_289_4 s0, a_291 s0, t_309 s0, ex, dnIn_nI (show (4 * K + j) < 12 by omega) (by decide), dnIn_nI (show (j) < 4 by omega) (by decide), nI_clamp (show (4 * K + j) < 2 ^ 31 by omega), nI_clamp (show (j) < 2 ^ 31 by omega), dnP, nI_1]
    · intro y hy
      have e : (dnSI (k) 309 (4 * K + j) ((k).2.1 291 (j))).2.1 309 (4 * K + y) = if y = j then k.2.1 291 (j) else k.2.1 309 (4 * K + y) := by simp [dnSI, dnSL, dnSD, dnUp]
      have es : k.2.1 291 = h.2.1 291 := (ek.2.2 291 (by decide)).1
      rw [e, es]
      by_cases q : y = j
      · rw [if_pos q, q]
      · rw [if_neg q]; exact fa0 y (by omega)
    · intro y hy
      have ne : y ≠ (4 * K + j) := by omega
      have e : (dnSI (k) 309 (4 * K + j) ((k).2.1 291 (j))).2.1 309 y = k.2.1 309 y := by simp [dnSI, dnSL, dnSD, dnUp, ne]
      rw [e]; exact oa0 y hy
  · rintro u k ⟨rfl, ek, fa, oa⟩
    have hc : (4 : Int32) ≤ nI 4 := by decide
    exact ⟨(), k, by simp only [fX13_keeps_b9, hc, if_true, dnP], ek, fa, oa⟩
theorem kp2 {h : dnH} {K : Nat} (hs : Sh h) (hK : K < 3) : ∃ h2, dnIt 1000 (fX13_keeps_b38 (some 289) (nI K)) 0 h = some ((), h2) ∧ Eqc (fun x => x ≠ 310) h h2 ∧ ((∀ y, y < 24 → h2.2.1 310 (24 * K + y) = h.2.1 292 (y))) ∧ (∀ y, (y < 24 * K ∨ 24 * K + 24 ≤ y) → h2.2.1 310 y = h.2.1 310 y) := by
  have KK := it_inv (f := fX13_keeps_b38 (some 289) (nI K)) (Q := fun _ k => Eqc (fun x => x ≠ 310) h k ∧ ((∀ y, y < 24 → k.2.1 310 (24 * K + y) = h.2.1 292 (y))) ∧ (∀ y, (y < 24 * K ∨ 24 * K + 24 ≤ y) → k.2.1 310 y = h.2.1 310 y)) (fun j u k => u = nI j ∧ Eqc (fun x => x ≠ 310) h k ∧ ((∀ y, y < j → k.2.1 310 (24 * K + y) = h.2.1 292 (y))) ∧ (∀ y, (y < 24 * K ∨ 24 * K + 24 ≤ y) → k.2.1 310 y = h.2.1 310 y)) 24 1000 0 (by omega) (by omega) ?_ ?_ (nI 0) h ⟨rfl, Eqc.rf, fun y hy => (by omega), fun _ _ => rfl⟩
  · obtain ⟨q, h2, b1, b2⟩ := KK
    exact ⟨h2, b1, b2⟩
  · rintro j u k hj ⟨rfl, ek, fa0, oa0⟩
    left
    have sk := ek.sh hs
    have hc : ¬ ((24 : Int32) ≤ nI j) := fun hc => by have := (nI_leI (a := 24) (b := j) (by omega) (by omega)).mp hc; omega
    have ex : (24 : Int32) * nI K + nI j = nI (24 * K + j) := by rw [show (24 : Int32) = nI 24 from rfl, nI_mul, nI_add]
    have s0 : Sh k := sk
    have se : Eqc (fun x => x ≠ 310) k (dnSI (k) 310 (24 * K + j) ((k).2.1 292 (j))) := (eqc_SI (fun hx => hx rfl))
    refine ⟨nI (j + 1), dnSI (k) 310 (24 * K + j) ((k).2.1 292 (j)), ?_, rfl, ek.tr se, ?_, ?_⟩
    · simp only [fX13_keeps_b38, hc, if_false, if_true, dnB_eval, g_289_30 s0, g_289_5 s0, a_292 s0, t_310 s0, ex, dnIn_nI (show (24 * K + j) < 72 by omega) (by decide), dnIn_nI (show (j) < 24 by omega) (by decide), nI_clamp (show (24 * K + j) < 2 ^ 31 by omega), nI_clamp (show (j) < 2 ^ 31 by omega), dnP, nI_1]
    · intro y hy
      have e : (dnSI (k) 310 (24 * K + j) ((k).2.1 292 (j))).2.1 310 (24 * K + y) = if y = j then k.2.1 292 (j) else k.2.1 310 (24 * K + y) := by simp [dnSI, dnSL, dnSD, dnUp]
      have es : k.2.1 292 = h.2.1 292 := (ek.2.2 292 (by decide)).1
      rw [e, es]
      by_cases q : y = j
      · rw [if_pos q, q]
      · rw [if_neg q]; exact fa0 y (by omega)
    · intro y hy
      have ne : y ≠ (24 * K + j) := by omega
      have e : (dnSI (k) 310 (24 * K + j) ((k).2.1 292 (j))).2.1 310 y = k.2.1 310 y := by simp [dnSI, dnSL, dnSD, dnUp, ne]
      rw [e]; exact oa0 y hy
  · rintro u k ⟨rfl, ek, fa, oa⟩
    have hc : (24 : Int32) ≤ nI 24 := by decide
    exact ⟨(), k, by simp only [fX13_keeps_b38, hc, if_true, dnP], ek, fa, oa⟩
theorem kp3 {h : dnH} {K : Nat} (hs : Sh h) (hK : K < 3) : ∃ h2, dnIt 1000 (fX13_keeps_b69 (some 289) (nI K)) 0 h = some ((), h2) ∧ Eqc (fun x => x ≠ 311 ∧ x ≠ 312) h h2 ∧ ((∀ y, y < 32 → h2.2.1 311 (32 * K + y) = h.2.1 293 (y)) ∧ (∀ y, y < 32 → h2.2.1 312 (32 * K + y) = h.2.1 294 (y))) ∧ (∀ y, (y < 32 * K ∨ 32 * K + 32 ≤ y) → h2.2.1 311 y = h.2.1 311 y) ∧ (∀ y, (y < 32 * K ∨ 32 * K + 32 ≤ y) → h2.2.1 312 y = h.2.1 312 y) := by
  have KK := it_inv (f := fX13_keeps_b69 (some 289) (nI K)) (Q := fun _ k => Eqc (fun x => x ≠ 311 ∧ x ≠ 312) h k ∧ ((∀ y, y < 32 → k.2.1 311 (32 * K + y) = h.2.1 293 (y)) ∧ (∀ y, y < 32 → k.2.1 312 (32 * K + y) = h.2.1 294 (y))) ∧ (∀ y, (y < 32 * K ∨ 32 * K + 32 ≤ y) → k.2.1 311 y = h.2.1 311 y) ∧ (∀ y, (y < 32 * K ∨ 32 * K + 32 ≤ y) → k.2.1 312 y = h.2.1 312 y)) (fun j u k => u = nI j ∧ Eqc (fun x => x ≠ 311 ∧ x ≠ 312) h k ∧ ((∀ y, y < j → k.2.1 311 (32 * K + y) = h.2.1 293 (y)) ∧ (∀ y, y < j → k.2.1 312 (32 * K + y) = h.2.1 294 (y))) ∧ (∀ y, (y < 32 * K ∨ 32 * K + 32 ≤ y) → k.2.1 311 y = h.2.1 311 y) ∧ (∀ y, (y < 32 * K ∨ 32 * K + 32 ≤ y) → k.2.1 312 y = h.2.1 312 y)) 32 1000 0 (by omega) (by omega) ?_ ?_ (nI 0) h ⟨rfl, Eqc.rf, ⟨fun y hy => (by omega), fun y hy => (by omega)⟩, fun _ _ => rfl, fun _ _ => rfl⟩
  · obtain ⟨q, h2, b1, b2⟩ := KK
    exact ⟨h2, b1, b2⟩
  · rintro j u k hj ⟨rfl, ek, ⟨fa0, fa1⟩, oa0, oa1⟩
    left
    have sk := ek.sh hs
    have hc : ¬ ((32 : Int32) ≤ nI j) := fun hc => by have := (nI_leI (a := 32) (b := j) (by omega) (by omega)).mp hc; omega
    have ex : (32 : Int32) * nI K + nI j = nI (32 * K + j) := by rw [show (32 : Int32) = nI 32 from rfl, nI_mul, nI_add]
    have s0 : Sh k := sk
    have s1 : Sh (dnSI (k) 311 (32 * K + j) ((k).2.1 293 (j))) := sk
    have se : Eqc (fun x => x ≠ 311 ∧ x ≠ 312) k (dnSI (dnSI (k) 311 (32 * K + j) ((k).2.1 293 (j))) 312 (32 * K + j) ((dnSI (k) 311 (32 * K + j) ((k).2.1 293 (j))).2.1 294 (j))) := ((eqc_SI (fun hx => hx.1 rfl))).tr (eqc_SI (fun hx => hx.2 rfl))
    refine ⟨nI (j + 1), dnSI (dnSI (k) 311 (32 * K + j) ((k).2.1 293 (j))) 312 (32 * K + j) ((dnSI (k) 311 (32 * K + j) ((k).2.1 293 (j))).2.1 294 (j)), ?_, rfl, ek.tr se, ⟨?_, ?_⟩, ?_, ?_⟩
    · simp only [fX13_keeps_b69, hc, if_false, if_true, dnB_eval, g_289_31 s0, g_289_6 s0, a_293 s0, t_311 s0, g_289_32 s1, g_289_7 s1, a_294 s1, t_312 s1, ex, dnIn_nI (show (32 * K + j) < 96 by omega) (by decide), dnIn_nI (show (j) < 32 by omega) (by decide), nI_clamp (show (32 * K + j) < 2 ^ 31 by omega), nI_clamp (show (j) < 2 ^ 31 by omega), dnP, nI_1]
    · intro y hy
      have e : (dnSI (dnSI (k) 311 (32 * K + j) ((k).2.1 293 (j))) 312 (32 * K + j) ((dnSI (k) 311 (32 * K + j) ((k).2.1 293 (j))).2.1 294 (j))).2.1 311 (32 * K + y) = if y = j then k.2.1 293 (j) else k.2.1 311 (32 * K + y) := by simp [dnSI, dnSL, dnSD, dnUp]
      have es : k.2.1 293 = h.2.1 293 := (ek.2.2 293 (by decide)).1
      rw [e, es]
      by_cases q : y = j
      · rw [if_pos q, q]
      · rw [if_neg q]; exact fa0 y (by omega)
    · intro y hy
      have e : (dnSI (dnSI (k) 311 (32 * K + j) ((k).2.1 293 (j))) 312 (32 * K + j) ((dnSI (k) 311 (32 * K + j) ((k).2.1 293 (j))).2.1 294 (j))).2.1 312 (32 * K + y) = if y = j then k.2.1 294 (j) else k.2.1 312 (32 * K + y) := by simp [dnSI, dnSL, dnSD, dnUp]
      have es : k.2.1 294 = h.2.1 294 := (ek.2.2 294 (by decide)).1
      rw [e, es]
      by_cases q : y = j
      · rw [if_pos q, q]
      · rw [if_neg q]; exact fa1 y (by omega)
    · intro y hy
      have ne : y ≠ (32 * K + j) := by omega
      have e : (dnSI (dnSI (k) 311 (32 * K + j) ((k).2.1 293 (j))) 312 (32 * K + j) ((dnSI (k) 311 (32 * K + j) ((k).2.1 293 (j))).2.1 294 (j))).2.1 311 y = k.2.1 311 y := by simp [dnSI, dnSL, dnSD, dnUp, ne]
      rw [e]; exact oa0 y hy
    · intro y hy
      have ne : y ≠ (32 * K + j) := by omega
      have e : (dnSI (dnSI (k) 311 (32 * K + j) ((k).2.1 293 (j))) 312 (32 * K + j) ((dnSI (k) 311 (32 * K + j) ((k).2.1 293 (j))).2.1 294 (j))).2.1 312 y = k.2.1 312 y := by simp [dnSI, dnSL, dnSD, dnUp, ne]
      rw [e]; exact oa1 y hy
  · rintro u k ⟨rfl, ek, fa, oa⟩
    have hc : (32 : Int32) ≤ nI 32 := by decide
    exact ⟨(), k, by simp only [fX13_keeps_b69, hc, if_true, dnP], ek, fa, oa⟩
theorem kp4 {h : dnH} {K : Nat} (hs : Sh h) (hK : K < 3) : ∃ h2, dnIt 1000 (fX13_keeps_b117 (some 289) (nI K)) 0 h = some ((), h2) ∧ Eqc (fun x => x ≠ 313 ∧ x ≠ 314 ∧ x ≠ 315) h h2 ∧ ((∀ y, y < 384 → h2.2.1 313 (384 * K + y) = h.2.1 296 (y)) ∧ (∀ y, y < 384 → h2.2.2.1 314 (384 * K + y) = h.2.2.1 297 (y)) ∧ (∀ y, y < 384 → h2.2.2.2.1 315 (384 * K + y) = h.2.2.2.1 298 (y))) ∧ (∀ y, (y < 384 * K ∨ 384 * K + 384 ≤ y) → h2.2.1 313 y = h.2.1 313 y) ∧ (∀ y, (y < 384 * K ∨ 384 * K + 384 ≤ y) → h2.2.2.1 314 y = h.2.2.1 314 y) ∧ (∀ y, (y < 384 * K ∨ 384 * K + 384 ≤ y) → h2.2.2.2.1 315 y = h.2.2.2.1 315 y) := by
  have KK := it_inv (f := fX13_keeps_b117 (some 289) (nI K)) (Q := fun _ k => Eqc (fun x => x ≠ 313 ∧ x ≠ 314 ∧ x ≠ 315) h k ∧ ((∀ y, y < 384 → k.2.1 313 (384 * K + y) = h.2.1 296 (y)) ∧ (∀ y, y < 384 → k.2.2.1 314 (384 * K + y) = h.2.2.1 297 (y)) ∧ (∀ y, y < 384 → k.2.2.2.1 315 (384 * K + y) = h.2.2.2.1 298 (y))) ∧ (∀ y, (y < 384 * K ∨ 384 * K + 384 ≤ y) → k.2.1 313 y = h.2.1 313 y) ∧ (∀ y, (y < 384 * K ∨ 384 * K + 384 ≤ y) → k.2.2.1 314 y = h.2.2.1 314 y) ∧ (∀ y, (y < 384 * K ∨ 384 * K + 384 ≤ y) → k.2.2.2.1 315 y = h.2.2.2.1 315 y)) (fun j u k => u = nI j ∧ Eqc (fun x => x ≠ 313 ∧ x ≠ 314 ∧ x ≠ 315) h k ∧ ((∀ y, y < j → k.2.1 313 (384 * K + y) = h.2.1 296 (y)) ∧ (∀ y, y < j → k.2.2.1 314 (384 * K + y) = h.2.2.1 297 (y)) ∧ (∀ y, y < j → k.2.2.2.1 315 (384 * K + y) = h.2.2.2.1 298 (y))) ∧ (∀ y, (y < 384 * K ∨ 384 * K + 384 ≤ y) → k.2.1 313 y = h.2.1 313 y) ∧ (∀ y, (y < 384 * K ∨ 384 * K + 384 ≤ y) → k.2.2.1 314 y = h.2.2.1 314 y) ∧ (∀ y, (y < 384 * K ∨ 384 * K + 384 ≤ y) → k.2.2.2.1 315 y = h.2.2.2.1 315 y)) 384 1000 0 (by omega) (by omega) ?_ ?_ (nI 0) h ⟨rfl, Eqc.rf, ⟨fun y hy => (by omega), fun y hy => (by omega), fun y hy => (by omega)⟩, fun _ _ => rfl, fun _ _ => rfl, fun _ _ => rfl⟩
  · obtain ⟨q, h2, b1, b2⟩ := KK
    exact ⟨h2, b1, b2⟩
  · rintro j u k hj ⟨rfl, ek, ⟨fa0, fa1, fa2⟩, oa0, oa1, oa2⟩
    left
    have sk := ek.sh hs
    have hc : ¬ ((384 : Int32) ≤ nI j) := fun hc => by have := (nI_leI (a := 384) (b := j) (by omega) (by omega)).mp hc; omega
    have ex : (384 : Int32) * nI K + nI j = nI (384 * K + j) := by rw [show (384 : Int32) = nI 384 from rfl, nI_mul, nI_add]
    have s0 : Sh k := sk
    have s1 : Sh (dnSI (k) 313 (384 * K + j) ((k).2.1 296 (j))) := sk
    have s2 : Sh (dnSL (dnSI (k) 313 (384 * K + j) ((k).2.1 296 (j))) 314 (384 * K + j) ((dnSI (k) 313 (384 * K + j) ((k).2.1 296 (j))).2.2.1 297 (j))) := sk
    have se : Eqc (fun x => x ≠ 313 ∧ x ≠ 314 ∧ x ≠ 315) k (dnSD (dnSL (dnSI (k) 313 (384 * K + j) ((k).2.1 296 (j))) 314 (384 * K + j) ((dnSI (k) 313 (384 * K + j) ((k).2.1 296 (j))).2.2.1 297 (j))) 315 (384 * K + j) ((dnSL (dnSI (k) 313 (384 * K + j) ((k).2.1 296 (j))) 314 (384 * K + j) ((dnSI (k) 313 (384 * K + j) ((k).2.1 296 (j))).2.2.1 297 (j))).2.2.2.1 298 (j))) := (((eqc_SI (fun hx => hx.1 rfl))).tr (eqc_SL (fun hx => hx.2.1 rfl))).tr (eqc_SD (fun hx => hx.2.2 rfl))
    refine ⟨nI (j + 1), dnSD (dnSL (dnSI (k) 313 (384 * K + j) ((k).2.1 296 (j))) 314 (384 * K + j) ((dnSI (k) 313 (384 * K + j) ((k).2.1 296 (j))).2.2.1 297 (j))) 315 (384 * K + j) ((dnSL (dnSI (k) 313 (384 * K + j) ((k).2.1 296 (j))) 314 (384 * K + j) ((dnSI (k) 313 (384 * K + j) ((k).2.1 296 (j))).2.2.1 297 (j))).2.2.2.1 298 (j)), ?_, rfl, ek.tr se, ⟨?_, ?_, ?_⟩, ?_, ?_, ?_⟩
    · simp only [fX13_keeps_b117, hc, if_false, if_true, dnB_eval, g_289_33 s0, g_289_9 s0, a_296 s0, t_313 s0, g_289_34 s1, g_289_10 s1, a_297 s1, t_314 s1, g_289_35 s2, g_289_11 s2, a_298 s2, t_315 s2, ex, dnIn_nI (show (384 * K + j) < 1152 by omega) (by decide), dnIn_nI (show (j) < 384 by omega) (by decide), nI_clamp (show (384 * K + j) < 2 ^ 31 by omega), nI_clamp (show (j) < 2 ^ 31 by omega), dnP, nI_1]
    · intro y hy
      have e : (dnSD (dnSL (dnSI (k) 313 (384 * K + j) ((k).2.1 296 (j))) 314 (384 * K + j) ((dnSI (k) 313 (384 * K + j) ((k).2.1 296 (j))).2.2.1 297 (j))) 315 (384 * K + j) ((dnSL (dnSI (k) 313 (384 * K + j) ((k).2.1 296 (j))) 314 (384 * K + j) ((dnSI (k) 313 (384 * K + j) ((k).2.1 296 (j))).2.2.1 297 (j))).2.2.2.1 298 (j))).2.1 313 (384 * K + y) = if y = j then k.2.1 296 (j) else k.2.1 313 (384 * K + y) := by simp [dnSI, dnSL, dnSD, dnUp]
      have es : k.2.1 296 = h.2.1 296 := (ek.2.2 296 (by decide)).1
      rw [e, es]
      by_cases q : y = j
      · rw [if_pos q, q]
      · rw [if_neg q]; exact fa0 y (by omega)
    · intro y hy
      have e : (dnSD (dnSL (dnSI (k) 313 (384 * K + j) ((k).2.1 296 (j))) 314 (384 * K + j) ((dnSI (k) 313 (384 * K + j) ((k).2.1 296 (j))).2.2.1 297 (j))) 315 (384 * K + j) ((dnSL (dnSI (k) 313 (384 * K + j) ((k).2.1 296 (j))) 314 (384 * K + j) ((dnSI (k) 313 (384 * K + j) ((k).2.1 296 (j))).2.2.1 297 (j))).2.2.2.1 298 (j))).2.2.1 314 (384 * K + y) = if y = j then k.2.2.1 297 (j) else k.2.2.1 314 (384 * K + y) := by simp [dnSI, dnSL, dnSD, dnUp]
      have es : k.2.2.1 297 = h.2.2.1 297 := (ek.2.2 297 (by decide)).2.1
      rw [e, es]
      by_cases q : y = j
      · rw [if_pos q, q]
      · rw [if_neg q]; exact fa1 y (by omega)
    · intro y hy
      have e : (dnSD (dnSL (dnSI (k) 313 (384 * K + j) ((k).2.1 296 (j))) 314 (384 * K + j) ((dnSI (k) 313 (384 * K + j) ((k).2.1 296 (j))).2.2.1 297 (j))) 315 (384 * K + j) ((dnSL (dnSI (k) 313 (384 * K + j) ((k).2.1 296 (j))) 314 (384 * K + j) ((dnSI (k) 313 (384 * K + j) ((k).2.1 296 (j))).2.2.1 297 (j))).2.2.2.1 298 (j))).2.2.2.1 315 (384 * K + y) = if y = j then k.2.2.2.1 298 (j) else k.2.2.2.1 315 (384 * K + y) := by simp [dnSI, dnSL, dnSD, dnUp]
      have es : k.2.2.2.1 298 = h.2.2.2.1 298 := (ek.2.2 298 (by decide)).2.2
      rw [e, es]
      by_cases q : y = j
      · rw [if_pos q, q]
      · rw [if_neg q]; exact fa2 y (by omega)
    · intro y hy
      have ne : y ≠ (384 * K + j) := by omega
      have e : (dnSD (dnSL (dnSI (k) 313 (384 * K + j) ((k).2.1 296 (j))) 314 (384 * K + j) ((dnSI (k) 313 (384 * K + j) ((k).2.1 296 (j))).2.2.1 297 (j))) 315 (384 * K + j) ((dnSL (dnSI (k) 313 (384 * K + j) ((k).2.1 296 (j))) 314 (384 * K + j) ((dnSI (k) 313 (384 * K + j) ((k).2.1 296 (j))).2.2.1 297 (j))).2.2.2.1 298 (j))).2.1 313 y = k.2.1 313 y := by simp [dnSI, dnSL, dnSD, dnUp, ne]
      rw [e]; exact oa0 y hy
    · intro y hy
      have ne : y ≠ (384 * K + j) := by omega
      have e : (dnSD (dnSL (dnSI (k) 313 (384 * K + j) ((k).2.1 296 (j))) 314 (384 * K + j) ((dnSI (k) 313 (384 * K + j) ((k).2.1 296 (j))).2.2.1 297 (j))) 315 (384 * K + j) ((dnSL (dnSI (k) 313 (384 * K + j) ((k).2.1 296 (j))) 314 (384 * K + j) ((dnSI (k) 313 (384 * K + j) ((k).2.1 296 (j))).2.2.1 297 (j))).2.2.2.1 298 (j))).2.2.1 314 y = k.2.2.1 314 y := by simp [dnSI, dnSL, dnSD, dnUp, ne]
      rw [e]; exact oa1 y hy
    · intro y hy
      have ne : y ≠ (384 * K + j) := by omega
      have e : (dnSD (dnSL (dnSI (k) 313 (384 * K + j) ((k).2.1 296 (j))) 314 (384 * K + j) ((dnSI (k) 313 (384 * K + j) ((k).2.1 296 (j))).2.2.1 297 (j))) 315 (384 * K + j) ((dnSL (dnSI (k) 313 (384 * K + j) ((k).2.1 296 (j))) 314 (384 * K + j) ((dnSI (k) 313 (384 * K + j) ((k).2.1 296 (j))).2.2.1 297 (j))).2.2.2.1 298 (j))).2.2.2.1 315 y = k.2.2.2.1 315 y := by simp [dnSI, dnSL, dnSD, dnUp, ne]
      rw [e]; exact oa2 y hy
  · rintro u k ⟨rfl, ek, fa, oa⟩
    have hc : (384 : Int32) ≤ nI 384 := by decide
    exact ⟨(), k, by simp only [fX13_keeps_b117, hc, if_true, dnP], ek, fa, oa⟩
theorem cb1 {h : dnH} {K : Nat} (hs : Sh h) (hK : K < 3) : ∃ h2, dnIt 1000 (fX13_comesBack_b2 (some 289) (nI K)) 0 h = some ((), h2) ∧ Eqc (fun x => x ≠ 291) h h2 ∧ ((∀ y, y < 4 → h2.2.1 291 (y) = h.2.1 309 (4 * K + y))) ∧ (∀ y, (y < 0 ∨ 4 ≤ y) → h2.2.1 291 y = h.2.1 291 y) := by
  have KK := it_inv (f := fX13_comesBack_b2 (some 289) (nI K)) (Q := fun _ k => Eqc (fun x => x ≠ 291) h k ∧ ((∀ y, y < 4 → k.2.1 291 (y) = h.2.1 309 (4 * K + y))) ∧ (∀ y, (y < 0 ∨ 4 ≤ y) → k.2.1 291 y = h.2.1 291 y)) (fun j u k => u = nI j ∧ Eqc (fun x => x ≠ 291) h k ∧ ((∀ y, y < j → k.2.1 291 (y) = h.2.1 309 (4 * K + y))) ∧ (∀ y, (y < 0 ∨ 4 ≤ y) → k.2.1 291 y = h.2.1 291 y)) 4 1000 0 (by omega) (by omega) ?_ ?_ (nI 0) h ⟨rfl, Eqc.rf, fun y hy => (by omega), fun _ _ => rfl⟩
  · obtain ⟨q, h2, b1, b2⟩ := KK
    exact ⟨h2, b1, b2⟩
  · rintro j u k hj ⟨rfl, ek, fa0, oa0⟩
    left
    have sk := ek.sh hs
    have hc : ¬ ((4 : Int32) ≤ nI j) := fun hc => by have := (nI_leI (a := 4) (b := j) (by omega) (by omega)).mp hc; omega
    have ex : (4 : Int32) * nI K + nI j = nI (4 * K + j) := by rw [show (4 : Int32) = nI 4 from rfl, nI_mul, nI_add]
    have s0 : Sh k := sk
    have se : Eqc (fun x => x ≠ 291) k (dnSI (k) 291 (j) ((k).2.1 309 (4 * K + j))) := (eqc_SI (fun hx => hx rfl))
    refine ⟨nI (j + 1), dnSI (k) 291 (j) ((k).2.1 309 (4 * K + j)), ?_, rfl, ek.tr se, ?_, ?_⟩
    · simp only [fX13_comesBack_b2, hc, if_false, if_true, dnB_eval, g_289_4 s0, g_289_29 s0, a_309 s0, t_291 s0, ex, dnIn_nI (show (4 * K + j) < 12 by omega) (by decide), dnIn_nI (show (j) < 4 by omega) (by decide), nI_clamp (show (4 * K + j) < 2 ^ 31 by omega), nI_clamp (show (j) < 2 ^ 31 by omega), dnP, nI_1]
    · intro y hy
      have e : (dnSI (k) 291 (j) ((k).2.1 309 (4 * K + j))).2.1 291 (y) = if y = j then k.2.1 309 (4 * K + j) else k.2.1 291 (y) := by simp [dnSI, dnSL, dnSD, dnUp]
      have es : k.2.1 309 = h.2.1 309 := (ek.2.2 309 (by decide)).1
      rw [e, es]
      by_cases q : y = j
      · rw [if_pos q, q]
      · rw [if_neg q]; exact fa0 y (by omega)
    · intro y hy
      have ne : y ≠ (j) := by omega
      have e : (dnSI (k) 291 (j) ((k).2.1 309 (4 * K + j))).2.1 291 y = k.2.1 291 y := by simp [dnSI, dnSL, dnSD, dnUp, ne]
      rw [e]; exact oa0 y hy
  · rintro u k ⟨rfl, ek, fa, oa⟩
    have hc : (4 : Int32) ≤ nI 4 := by decide
    exact ⟨(), k, by simp only [fX13_comesBack_b2, hc, if_true, dnP], ek, fa, oa⟩
theorem cb2 {h : dnH} {K : Nat} (hs : Sh h) (hK : K < 3) : ∃ h2, dnIt 1000 (fX13_comesBack_b31 (some 289) (nI K)) 0 h = some ((), h2) ∧ Eqc (fun x => x ≠ 292) h h2 ∧ ((∀ y, y < 24 → h2.2.1 292 (y) = h.2.1 310 (24 * K + y))) ∧ (∀ y, (y < 0 ∨ 24 ≤ y) → h2.2.1 292 y = h.2.1 292 y) := by
  have KK := it_inv (f := fX13_comesBack_b31 (some 289) (nI K)) (Q := fun _ k => Eqc (fun x => x ≠ 292) h k ∧ ((∀ y, y < 24 → k.2.1 292 (y) = h.2.1 310 (24 * K + y))) ∧ (∀ y, (y < 0 ∨ 24 ≤ y) → k.2.1 292 y = h.2.1 292 y)) (fun j u k => u = nI j ∧ Eqc (fun x => x ≠ 292) h k ∧ ((∀ y, y < j → k.2.1 292 (y) = h.2.1 310 (24 * K + y))) ∧ (∀ y, (y < 0 ∨ 24 ≤ y) → k.2.1 292 y = h.2.1 292 y)) 24 1000 0 (by omega) (by omega) ?_ ?_ (nI 0) h ⟨rfl, Eqc.rf, fun y hy => (by omega), fun _ _ => rfl⟩
  · obtain ⟨q, h2, b1, b2⟩ := KK
    exact ⟨h2, b1, b2⟩
  · rintro j u k hj ⟨rfl, ek, fa0, oa0⟩
    left
    have sk := ek.sh hs
    have hc : ¬ ((24 : Int32) ≤ nI j) := fun hc => by have := (nI_leI (a := 24) (b := j) (by omega) (by omega)).mp hc; omega
    have ex : (24 : Int32) * nI K + nI j = nI (24 * K + j) := by rw [show (24 : Int32) = nI 24 from rfl, nI_mul, nI_add]
    have s0 : Sh k := sk
    have se : Eqc (fun x => x ≠ 292) k (dnSI (k) 292 (j) ((k).2.1 310 (24 * K + j))) := (eqc_SI (fun hx => hx rfl))
    refine ⟨nI (j + 1), dnSI (k) 292 (j) ((k).2.1 310 (24 * K + j)), ?_, rfl, ek.tr se, ?_, ?_⟩
    · simp only [fX13_comesBack_b31, hc, if_false, if_true, dnB_eval, g_289_5 s0, g_289_30 s0, a_310 s0, t_292 s0, ex, dnIn_nI (show (24 * K + j) < 72 by omega) (by decide), dnIn_nI (show (j) < 24 by omega) (by decide), nI_clamp (show (24 * K + j) < 2 ^ 31 by omega), nI_clamp (show (j) < 2 ^ 31 by omega), dnP, nI_1]
    · intro y hy
      have e : (dnSI (k) 292 (j) ((k).2.1 310 (24 * K + j))).2.1 292 (y) = if y = j then k.2.1 310 (24 * K + j) else k.2.1 292 (y) := by simp [dnSI, dnSL, dnSD, dnUp]
      have es : k.2.1 310 = h.2.1 310 := (ek.2.2 310 (by decide)).1
      rw [e, es]
      by_cases q : y = j
      · rw [if_pos q, q]
      · rw [if_neg q]; exact fa0 y (by omega)
    · intro y hy
      have ne : y ≠ (j) := by omega
      have e : (dnSI (k) 292 (j) ((k).2.1 310 (24 * K + j))).2.1 292 y = k.2.1 292 y := by simp [dnSI, dnSL, dnSD, dnUp, ne]
      rw [e]; exact oa0 y hy
  · rintro u k ⟨rfl, ek, fa, oa⟩
    have hc : (24 : Int32) ≤ nI 24 := by decide
    exact ⟨(), k, by simp only [fX13_comesBack_b31, hc, if_true, dnP], ek, fa, oa⟩
theorem cb3 {h : dnH} {K : Nat} (hs : Sh h) (hK : K < 3) : ∃ h2, dnIt 1000 (fX13_comesBack_b62 (some 289) (nI K)) 0 h = some ((), h2) ∧ Eqc (fun x => x ≠ 293 ∧ x ≠ 294) h h2 ∧ ((∀ y, y < 32 → h2.2.1 293 (y) = h.2.1 311 (32 * K + y)) ∧ (∀ y, y < 32 → h2.2.1 294 (y) = h.2.1 312 (32 * K + y))) ∧ (∀ y, (y < 0 ∨ 32 ≤ y) → h2.2.1 293 y = h.2.1 293 y) ∧ (∀ y, (y < 0 ∨ 32 ≤ y) → h2.2.1 294 y = h.2.1 294 y) := by
  have KK := it_inv (f := fX13_comesBack_b62 (some 289) (nI K)) (Q := fun _ k => Eqc (fun x => x ≠ 293 ∧ x ≠ 294) h k ∧ ((∀ y, y < 32 → k.2.1 293 (y) = h.2.1 311 (32 * K + y)) ∧ (∀ y, y < 32 → k.2.1 294 (y) = h.2.1 312 (32 * K + y))) ∧ (∀ y, (y < 0 ∨ 32 ≤ y) → k.2.1 293 y = h.2.1 293 y) ∧ (∀ y, (y < 0 ∨ 32 ≤ y) → k.2.1 294 y = h.2.1 294 y)) (fun j u k => u = nI j ∧ Eqc (fun x => x ≠ 293 ∧ x ≠ 294) h k ∧ ((∀ y, y < j → k.2.1 293 (y) = h.2.1 311 (32 * K + y)) ∧ (∀ y, y < j → k.2.1 294 (y) = h.2.1 312 (32 * K + y))) ∧ (∀ y, (y < 0 ∨ 32 ≤ y) → k.2.1 293 y = h.2.1 293 y) ∧ (∀ y, (y < 0 ∨ 32 ≤ y) → k.2.1 294 y = h.2.1 294 y)) 32 1000 0 (by omega) (by omega) ?_ ?_ (nI 0) h ⟨rfl, Eqc.rf, ⟨fun y hy => (by omega), fun y hy => (by omega)⟩, fun _ _ => rfl, fun _ _ => rfl⟩
  · obtain ⟨q, h2, b1, b2⟩ := KK
    exact ⟨h2, b1, b2⟩
  · rintro j u k hj ⟨rfl, ek, ⟨fa0, fa1⟩, oa0, oa1⟩
    left
    have sk := ek.sh hs
    have hc : ¬ ((32 : Int32) ≤ nI j) := fun hc => by have := (nI_leI (a := 32) (b := j) (by omega) (by omega)).mp hc; omega
    have ex : (32 : Int32) * nI K + nI j = nI (32 * K + j) := by rw [show (32 : Int32) = nI 32 from rfl, nI_mul, nI_add]
    have s0 : Sh k := sk
    have s1 : Sh (dnSI (k) 293 (j) ((k).2.1 311 (32 * K + j))) := sk
    have se : Eqc (fun x => x ≠ 293 ∧ x ≠ 294) k (dnSI (dnSI (k) 293 (j) ((k).2.1 311 (32 * K + j))) 294 (j) ((dnSI (k) 293 (j) ((k).2.1 311 (32 * K + j))).2.1 312 (32 * K + j))) := ((eqc_SI (fun hx => hx.1 rfl))).tr (eqc_SI (fun hx => hx.2 rfl))
    refine ⟨nI (j + 1), dnSI (dnSI (k) 293 (j) ((k).2.1 311 (32 * K + j))) 294 (j) ((dnSI (k) 293 (j) ((k).2.1 311 (32 * K + j))).2.1 312 (32 * K + j)), ?_, rfl, ek.tr se, ⟨?_, ?_⟩, ?_, ?_⟩
    · simp only [fX13_comesBack_b62, hc, if_false, if_true, dnB_eval, g_289_6 s0, g_289_31 s0, a_311 s0, t_293 s0, g_289_7 s1, g_289_32 s1, a_312 s1, t_294 s1, ex, dnIn_nI (show (32 * K + j) < 96 by omega) (by decide), dnIn_nI (show (j) < 32 by omega) (by decide), nI_clamp (show (32 * K + j) < 2 ^ 31 by omega), nI_clamp (show (j) < 2 ^ 31 by omega), dnP, nI_1]
    · intro y hy
      have e : (dnSI (dnSI (k) 293 (j) ((k).2.1 311 (32 * K + j))) 294 (j) ((dnSI (k) 293 (j) ((k).2.1 311 (32 * K + j))).2.1 312 (32 * K + j))).2.1 293 (y) = if y = j then k.2.1 311 (32 * K + j) else k.2.1 293 (y) := by simp [dnSI, dnSL, dnSD, dnUp]
      have es : k.2.1 311 = h.2.1 311 := (ek.2.2 311 (by decide)).1
      rw [e, es]
      by_cases q : y = j
      · rw [if_pos q, q]
      · rw [if_neg q]; exact fa0 y (by omega)
    · intro y hy
      have e : (dnSI (dnSI (k) 293 (j) ((k).2.1 311 (32 * K + j))) 294 (j) ((dnSI (k) 293 (j) ((k).2.1 311 (32 * K + j))).2.1 312 (32 * K + j))).2.1 294 (y) = if y = j then k.2.1 312 (32 * K + j) else k.2.1 294 (y) := by simp [dnSI, dnSL, dnSD, dnUp]
      have es : k.2.1 312 = h.2.1 312 := (ek.2.2 312 (by decide)).1
      rw [e, es]
      by_cases q : y = j
      · rw [if_pos q, q]
      · rw [if_neg q]; exact fa1 y (by omega)
    · intro y hy
      have ne : y ≠ (j) := by omega
      have e : (dnSI (dnSI (k) 293 (j) ((k).2.1 311 (32 * K + j))) 294 (j) ((dnSI (k) 293 (j) ((k).2.1 311 (32 * K + j))).2.1 312 (32 * K + j))).2.1 293 y = k.2.1 293 y := by simp [dnSI, dnSL, dnSD, dnUp, ne]
      rw [e]; exact oa0 y hy
    · intro y hy
      have ne : y ≠ (j) := by omega
      have e : (dnSI (dnSI (k) 293 (j) ((k).2.1 311 (32 * K + j))) 294 (j) ((dnSI (k) 293 (j) ((k).2.1 311 (32 * K + j))).2.1 312 (32 * K + j))).2.1 294 y = k.2.1 294 y := by simp [dnSI, dnSL, dnSD, dnUp, ne]
      rw [e]; exact oa1 y hy
  · rintro u k ⟨rfl, ek, fa, oa⟩
    have hc : (32 : Int32) ≤ nI 32 := by decide
    exact ⟨(), k, by simp only [fX13_comesBack_b62, hc, if_true, dnP], ek, fa, oa⟩
theorem cb4 {h : dnH} {K : Nat} (hs : Sh h) (hK : K < 3) : ∃ h2, dnIt 1000 (fX13_comesBack_b110 (some 289) (nI K)) 0 h = some ((), h2) ∧ Eqc (fun x => x ≠ 296 ∧ x ≠ 297 ∧ x ≠ 298) h h2 ∧ ((∀ y, y < 384 → h2.2.1 296 (y) = h.2.1 313 (384 * K + y)) ∧ (∀ y, y < 384 → h2.2.2.1 297 (y) = h.2.2.1 314 (384 * K + y)) ∧ (∀ y, y < 384 → h2.2.2.2.1 298 (y) = h.2.2.2.1 315 (384 * K + y))) ∧ (∀ y, (y < 0 ∨ 384 ≤ y) → h2.2.1 296 y = h.2.1 296 y) ∧ (∀ y, (y < 0 ∨ 384 ≤ y) → h2.2.2.1 297 y = h.2.2.1 297 y) ∧ (∀ y, (y < 0 ∨ 384 ≤ y) → h2.2.2.2.1 298 y = h.2.2.2.1 298 y) := by
  have KK := it_inv (f := fX13_comesBack_b110 (some 289) (nI K)) (Q := fun _ k => Eqc (fun x => x ≠ 296 ∧ x ≠ 297 ∧ x ≠ 298) h k ∧ ((∀ y, y < 384 → k.2.1 296 (y) = h.2.1 313 (384 * K + y)) ∧ (∀ y, y < 384 → k.2.2.1 297 (y) = h.2.2.1 314 (384 * K + y)) ∧ (∀ y, y < 384 → k.2.2.2.1 298 (y) = h.2.2.2.1 315 (384 * K + y))) ∧ (∀ y, (y < 0 ∨ 384 ≤ y) → k.2.1 296 y = h.2.1 296 y) ∧ (∀ y, (y < 0 ∨ 384 ≤ y) → k.2.2.1 297 y = h.2.2.1 297 y) ∧ (∀ y, (y < 0 ∨ 384 ≤ y) → k.2.2.2.1 298 y = h.2.2.2.1 298 y)) (fun j u k => u = nI j ∧ Eqc (fun x => x ≠ 296 ∧ x ≠ 297 ∧ x ≠ 298) h k ∧ ((∀ y, y < j → k.2.1 296 (y) = h.2.1 313 (384 * K + y)) ∧ (∀ y, y < j → k.2.2.1 297 (y) = h.2.2.1 314 (384 * K + y)) ∧ (∀ y, y < j → k.2.2.2.1 298 (y) = h.2.2.2.1 315 (384 * K + y))) ∧ (∀ y, (y < 0 ∨ 384 ≤ y) → k.2.1 296 y = h.2.1 296 y) ∧ (∀ y, (y < 0 ∨ 384 ≤ y) → k.2.2.1 297 y = h.2.2.1 297 y) ∧ (∀ y, (y < 0 ∨ 384 ≤ y) → k.2.2.2.1 298 y = h.2.2.2.1 298 y)) 384 1000 0 (by omega) (by omega) ?_ ?_ (nI 0) h ⟨rfl, Eqc.rf, ⟨fun y hy => (by omega), fun y hy => (by omega), fun y hy => (by omega)⟩, fun _ _ => rfl, fun _ _ => rfl, fun _ _ => rfl⟩
  · obtain ⟨q, h2, b1, b2⟩ := KK
    exact ⟨h2, b1, b2⟩
  · rintro j u k hj ⟨rfl, ek, ⟨fa0, fa1, fa2⟩, oa0, oa1, oa2⟩
    left
    have sk := ek.sh hs
    have hc : ¬ ((384 : Int32) ≤ nI j) := fun hc => by have := (nI_leI (a := 384) (b := j) (by omega) (by omega)).mp hc; omega
    have ex : (384 : Int32) * nI K + nI j = nI (384 * K + j) := by rw [show (384 : Int32) = nI 384 from rfl, nI_mul, nI_add]
    have s0 : Sh k := sk
    have s1 : Sh (dnSI (k) 296 (j) ((k).2.1 313 (384 * K + j))) := sk
    have s2 : Sh (dnSL (dnSI (k) 296 (j) ((k).2.1 313 (384 * K + j))) 297 (j) ((dnSI (k) 296 (j) ((k).2.1 313 (384 * K + j))).2.2.1 314 (384 * K + j))) := sk
    have se : Eqc (fun x => x ≠ 296 ∧ x ≠ 297 ∧ x ≠ 298) k (dnSD (dnSL (dnSI (k) 296 (j) ((k).2.1 313 (384 * K + j))) 297 (j) ((dnSI (k) 296 (j) ((k).2.1 313 (384 * K + j))).2.2.1 314 (384 * K + j))) 298 (j) ((dnSL (dnSI (k) 296 (j) ((k).2.1 313 (384 * K + j))) 297 (j) ((dnSI (k) 296 (j) ((k).2.1 313 (384 * K + j))).2.2.1 314 (384 * K + j))).2.2.2.1 315 (384 * K + j))) := (((eqc_SI (fun hx => hx.1 rfl))).tr (eqc_SL (fun hx => hx.2.1 rfl))).tr (eqc_SD (fun hx => hx.2.2 rfl))
    refine ⟨nI (j + 1), dnSD (dnSL (dnSI (k) 296 (j) ((k).2.1 313 (384 * K + j))) 297 (j) ((dnSI (k) 296 (j) ((k).2.1 313 (384 * K + j))).2.2.1 314 (384 * K + j))) 298 (j) ((dnSL (dnSI (k) 296 (j) ((k).2.1 313 (384 * K + j))) 297 (j) ((dnSI (k) 296 (j) ((k).2.1 313 (384 * K + j))).2.2.1 314 (384 * K + j))).2.2.2.1 315 (384 * K + j)), ?_, rfl, ek.tr se, ⟨?_, ?_, ?_⟩, ?_, ?_, ?_⟩
    · simp only [fX13_comesBack_b110, hc, if_false, if_true, dnB_eval, g_289_9 s0, g_289_33 s0, a_313 s0, t_296 s0, g_289_10 s1, g_289_34 s1, a_314 s1, t_297 s1, g_289_11 s2, g_289_35 s2, a_315 s2, t_298 s2, ex, dnIn_nI (show (384 * K + j) < 1152 by omega) (by decide), dnIn_nI (show (j) < 384 by omega) (by decide), nI_clamp (show (384 * K + j) < 2 ^ 31 by omega), nI_clamp (show (j) < 2 ^ 31 by omega), dnP, nI_1]
    · intro y hy
      have e : (dnSD (dnSL (dnSI (k) 296 (j) ((k).2.1 313 (384 * K + j))) 297 (j) ((dnSI (k) 296 (j) ((k).2.1 313 (384 * K + j))).2.2.1 314 (384 * K + j))) 298 (j) ((dnSL (dnSI (k) 296 (j) ((k).2.1 313 (384 * K + j))) 297 (j) ((dnSI (k) 296 (j) ((k).2.1 313 (384 * K + j))).2.2.1 314 (384 * K + j))).2.2.2.1 315 (384 * K + j))).2.1 296 (y) = if y = j then k.2.1 313 (384 * K + j) else k.2.1 296 (y) := by simp [dnSI, dnSL, dnSD, dnUp]
      have es : k.2.1 313 = h.2.1 313 := (ek.2.2 313 (by decide)).1
      rw [e, es]
      by_cases q : y = j
      · rw [if_pos q, q]
      · rw [if_neg q]; exact fa0 y (by omega)
    · intro y hy
      have e : (dnSD (dnSL (dnSI (k) 296 (j) ((k).2.1 313 (384 * K + j))) 297 (j) ((dnSI (k) 296 (j) ((k).2.1 313 (384 * K + j))).2.2.1 314 (384 * K + j))) 298 (j) ((dnSL (dnSI (k) 296 (j) ((k).2.1 313 (384 * K + j))) 297 (j) ((dnSI (k) 296 (j) ((k).2.1 313 (384 * K + j))).2.2.1 314 (384 * K + j))).2.2.2.1 315 (384 * K + j))).2.2.1 297 (y) = if y = j then k.2.2.1 314 (384 * K + j) else k.2.2.1 297 (y) := by simp [dnSI, dnSL, dnSD, dnUp]
      have es : k.2.2.1 314 = h.2.2.1 314 := (ek.2.2 314 (by decide)).2.1
      rw [e, es]
      by_cases q : y = j
      · rw [if_pos q, q]
      · rw [if_neg q]; exact fa1 y (by omega)
    · intro y hy
      have e : (dnSD (dnSL (dnSI (k) 296 (j) ((k).2.1 313 (384 * K + j))) 297 (j) ((dnSI (k) 296 (j) ((k).2.1 313 (384 * K + j))).2.2.1 314 (384 * K + j))) 298 (j) ((dnSL (dnSI (k) 296 (j) ((k).2.1 313 (384 * K + j))) 297 (j) ((dnSI (k) 296 (j) ((k).2.1 313 (384 * K + j))).2.2.1 314 (384 * K + j))).2.2.2.1 315 (384 * K + j))).2.2.2.1 298 (y) = if y = j then k.2.2.2.1 315 (384 * K + j) else k.2.2.2.1 298 (y) := by simp [dnSI, dnSL, dnSD, dnUp]
      have es : k.2.2.2.1 315 = h.2.2.2.1 315 := (ek.2.2 315 (by decide)).2.2
      rw [e, es]
      by_cases q : y = j
      · rw [if_pos q, q]
      · rw [if_neg q]; exact fa2 y (by omega)
    · intro y hy
      have ne : y ≠ (j) := by omega
      have e : (dnSD (dnSL (dnSI (k) 296 (j) ((k).2.1 313 (384 * K + j))) 297 (j) ((dnSI (k) 296 (j) ((k).2.1 313 (384 * K + j))).2.2.1 314 (384 * K + j))) 298 (j) ((dnSL (dnSI (k) 296 (j) ((k).2.1 313 (384 * K + j))) 297 (j) ((dnSI (k) 296 (j) ((k).2.1 313 (384 * K + j))).2.2.1 314 (384 * K + j))).2.2.2.1 315 (384 * K + j))).2.1 296 y = k.2.1 296 y := by simp [dnSI, dnSL, dnSD, dnUp, ne]
      rw [e]; exact oa0 y hy
    · intro y hy
      have ne : y ≠ (j) := by omega
      have e : (dnSD (dnSL (dnSI (k) 296 (j) ((k).2.1 313 (384 * K + j))) 297 (j) ((dnSI (k) 296 (j) ((k).2.1 313 (384 * K + j))).2.2.1 314 (384 * K + j))) 298 (j) ((dnSL (dnSI (k) 296 (j) ((k).2.1 313 (384 * K + j))) 297 (j) ((dnSI (k) 296 (j) ((k).2.1 313 (384 * K + j))).2.2.1 314 (384 * K + j))).2.2.2.1 315 (384 * K + j))).2.2.1 297 y = k.2.2.1 297 y := by simp [dnSI, dnSL, dnSD, dnUp, ne]
      rw [e]; exact oa1 y hy
    · intro y hy
      have ne : y ≠ (j) := by omega
      have e : (dnSD (dnSL (dnSI (k) 296 (j) ((k).2.1 313 (384 * K + j))) 297 (j) ((dnSI (k) 296 (j) ((k).2.1 313 (384 * K + j))).2.2.1 314 (384 * K + j))) 298 (j) ((dnSL (dnSI (k) 296 (j) ((k).2.1 313 (384 * K + j))) 297 (j) ((dnSI (k) 296 (j) ((k).2.1 313 (384 * K + j))).2.2.1 314 (384 * K + j))).2.2.2.1 315 (384 * K + j))).2.2.2.1 298 y = k.2.2.2.1 298 y := by simp [dnSI, dnSL, dnSD, dnUp, ne]
      rw [e]; exact oa2 y hy
  · rintro u k ⟨rfl, ek, fa, oa⟩
    have hc : (384 : Int32) ≤ nI 384 := by decide
    exact ⟨(), k, by simp only [fX13_comesBack_b110, hc, if_true, dnP], ek, fa, oa⟩
def VwE (c c2 : Vw) : Prop := (∀ g, g < 4 → c2.1 g = c.1 g) ∧ (∀ k, k < 24 → c2.2.1 k = c.2.1 k) ∧ ∀ n, n < 31 → c2.2.2.1 n = c.2.2.1 n ∧ c2.2.2.2.1 n = c.2.2.2.1 n ∧ ∀ i, i < 12 → c2.2.2.2.2.1 n i = c.2.2.2.2.1 n i ∧ c2.2.2.2.2.2.1 n i = c.2.2.2.2.2.1 n i ∧ c2.2.2.2.2.2.2 n i = c.2.2.2.2.2.2 n i
theorem stRel_cg {B : Nat} {c c2 r r2 : Vw} (h : stRel B c r) (hc : VwE c c2) (hr : VwE r r2) : stRel B c2 r2 := by
  obtain ⟨h1, h2, h3, h4⟩ := h
  obtain ⟨c1, cc, c3⟩ := hc
  obtain ⟨r1, rr, r3⟩ := hr
  refine ⟨fun g hg => ?_, fun k hk => ?_, fun g hg p hp hh => ?_, fun k hk n hn he => ?_⟩
  · rw [c1 g hg, r1 g hg]; exact h1 g hg
  · rw [cc k hk, rr k hk]; exact h2 k hk
  · rw [c1 g hg] at hh
    rw [cc _ (by omega)]
    exact h3 g hg p hp hh
  · rw [cc k hk] at he
    obtain ⟨kd, ln, a1, a2, a3, a4, a5, a6, a7⟩ := h4 k hk n hn he
    obtain ⟨x1, x2, x3⟩ := c3 n hn
    obtain ⟨y1, y2, y3⟩ := r3 n hn
    refine ⟨kd, ln, a1, a2, x1.trans a3, x2.trans a4, y1.trans a5, y2.trans a6, fun i hi => ?_⟩
    obtain ⟨u1, u2, u3⟩ := x3 i hi
    obtain ⟨v1, v2, v3⟩ := y3 i hi
    rw [u1, u2, u3, v1, v2, v3]
    exact a7 i hi
theorem vwe_rf {c : Vw} : VwE c c := ⟨fun _ _ => rfl, fun _ _ => rfl, fun _ _ => ⟨rfl, rfl, fun _ _ => ⟨rfl, rfl, rfl⟩⟩⟩
theorem keeps_r {h : dnH} {K : Nat} (hs : Sh h) (hK : K < 3) : ∃ h2, fX13_keeps (some 289) (nI K) h = some ((), h2) ∧ Eqc (fun x => x < 308 ∨ 316 ≤ x) h h2 ∧ h2.2.1 308 K = 1 ∧ (∀ j, j ≠ K → h2.2.1 308 j = h.2.1 308 j) ∧ VwE (vR h) (vK h2 K) ∧ ∀ j, j ≠ K → VwE (vK h j) (vK h2 j) := by
  have s0 : Sh (dnSI h 308 K 1) := hs
  obtain ⟨h1, a1, e1, f1, o1⟩ := kp1 s0 hK
  have s1 := e1.sh s0
  obtain ⟨h2, a2, e2, f2, o2⟩ := kp2 s1 hK
  have s2 := e2.sh s1
  obtain ⟨h3, a3, e3, ⟨f3, f3'⟩, o3, o3'⟩ := kp3 s2 hK
  have s3 := e3.sh s2
  obtain ⟨h4, a4, e4, ⟨f4, f4', f4''⟩, o4, o4', o4''⟩ := kp4 s3 hK
  have E0 : Eqc (fun x => x ≠ 308) h (dnSI h 308 K 1) := eqc_SI (fun hc => hc rfl)
  have E : Eqc (fun x => x < 308 ∨ 316 ≤ x) h h4 := ((((E0.im (fun x hx => by omega)).tr (e1.im (fun x hx => by omega))).tr (e2.im (fun x hx => by omega))).tr (e3.im (fun x hx => by omega))).tr (e4.im (fun x hx => by omega))
  have t8 : h4.2.1 308 = (dnSI h 308 K 1).2.1 308 := (e4.2.2 308 (by decide)).1.trans ((e3.2.2 308 (by decide)).1.trans ((e2.2.2 308 (by decide)).1.trans (e1.2.2 308 (by decide)).1))
  have t9 : h4.2.1 309 = h1.2.1 309 := (e4.2.2 309 (by decide)).1.trans ((e3.2.2 309 (by decide)).1.trans (e2.2.2 309 (by decide)).1)
  have t10 : h4.2.1 310 = h2.2.1 310 := (e4.2.2 310 (by decide)).1.trans (e3.2.2 310 (by decide)).1
  have t11 : h4.2.1 311 = h3.2.1 311 := (e4.2.2 311 (by decide)).1
  have t12 : h4.2.1 312 = h3.2.1 312 := (e4.2.2 312 (by decide)).1
  have E1 : Eqc (fun x => x ≠ 308 ∧ x ≠ 309) h h1 := (E0.im (fun x hx => hx.1)).tr (e1.im (fun x hx => hx.2))
  have E2 : Eqc (fun x => x ≠ 308 ∧ x ≠ 309 ∧ x ≠ 310) h h2 := (E1.im (fun x hx => by omega)).tr (e2.im (fun x hx => by omega))
  have E3 : Eqc (fun x => x ≠ 308 ∧ x ≠ 309 ∧ x ≠ 310 ∧ x ≠ 311 ∧ x ≠ 312) h h3 := (E2.im (fun x hx => by omega)).tr (e3.im (fun x hx => by omega))
  refine ⟨h4, ?_, E, ?_, fun j hj => ?_, ⟨fun g hg => ?_, fun k hk => ?_, fun n hn => ⟨?_, ?_, fun i hi => ⟨?_, ?_, ?_⟩⟩⟩, fun j hj => ⟨fun g hg => ?_, fun k hk => ?_, fun n hn => ⟨?_, ?_, fun i hi => ⟨?_, ?_, ?_⟩⟩⟩⟩
  · simp only [fX13_keeps, dnB_eval, g_289_28 hs, t_308 hs, dnIn_nI (show K < 3 by omega) (by decide), nI_clamp (show K < 2 ^ 31 by omega), if_true, a1, a2, a3, a4, dnP]
  · rw [t8]; simp [dnSI, dnUp]
  · rw [t8]; simp [dnSI, dnUp, hj]
  · show h4.2.1 309 (4 * K + g) = h.2.1 291 g
    rw [t9, f1 g hg]
    exact congrFun (E0.2.2 291 (by decide)).1 g
  · show h4.2.1 310 (24 * K + k) = h.2.1 292 k
    rw [t10, f2 k hk]
    exact congrFun (E1.2.2 292 (by decide)).1 k
  · show h4.2.1 311 (32 * K + n) = h.2.1 293 n
    rw [t11, f3 n (by omega)]
    exact congrFun (E2.2.2 293 (by decide)).1 n
  · show h4.2.1 312 (32 * K + n) = h.2.1 294 n
    rw [t12, f3' n (by omega)]
    exact congrFun (E2.2.2 294 (by decide)).1 n
  · show h4.2.1 313 (384 * K + (12 * n + i)) = h.2.1 296 (12 * n + i)
    rw [f4 (12 * n + i) (by omega)]
    exact congrFun (E3.2.2 296 (by decide)).1 _
  · show h4.2.2.1 314 (384 * K + (12 * n + i)) = h.2.2.1 297 (12 * n + i)
    rw [f4' (12 * n + i) (by omega)]
    exact congrFun (E3.2.2 297 (by decide)).2.1 _
  · show h4.2.2.2.1 315 (384 * K + (12 * n + i)) = h.2.2.2.1 298 (12 * n + i)
    rw [f4'' (12 * n + i) (by omega)]
    exact congrFun (E3.2.2 298 (by decide)).2.2 _
  · show h4.2.1 309 (4 * j + g) = h.2.1 309 (4 * j + g)
    rw [t9, o1 _ (by omega)]
    exact congrFun (E0.2.2 309 (by decide)).1 _
  · show h4.2.1 310 (24 * j + k) = h.2.1 310 (24 * j + k)
    rw [t10, o2 _ (by omega)]
    exact congrFun (E1.2.2 310 (by decide)).1 _
  · show h4.2.1 311 (32 * j + n) = h.2.1 311 (32 * j + n)
    rw [t11, o3 _ (by omega)]
    exact congrFun (E2.2.2 311 (by decide)).1 _
  · show h4.2.1 312 (32 * j + n) = h.2.1 312 (32 * j + n)
    rw [t12, o3' _ (by omega)]
    exact congrFun (E2.2.2 312 (by decide)).1 _
  · show h4.2.1 313 (384 * j + (12 * n + i)) = h.2.1 313 (384 * j + (12 * n + i))
    rw [o4 _ (by omega)]
    exact congrFun (E3.2.2 313 (by decide)).1 _
  · show h4.2.2.1 314 (384 * j + (12 * n + i)) = h.2.2.1 314 (384 * j + (12 * n + i))
    rw [o4' _ (by omega)]
    exact congrFun (E3.2.2 314 (by decide)).2.1 _
  · show h4.2.2.2.1 315 (384 * j + (12 * n + i)) = h.2.2.2.1 315 (384 * j + (12 * n + i))
    rw [o4'' _ (by omega)]
    exact congrFun (E3.2.2 315 (by decide)).2.2 _
theorem comes_r {h : dnH} {K : Nat} (hs : Sh h) (hK : K < 3) : ∃ h2, fX13_comesBack (some 289) (nI K) h = some ((), h2) ∧ Eqc (fun x => x < 291 ∨ x = 295 ∨ 299 ≤ x) h h2 ∧ VwE (vK h K) (vR h2) := by
  obtain ⟨h1, a1, e1, f1, o1⟩ := cb1 hs hK
  have s1 := e1.sh hs
  obtain ⟨h2, a2, e2, f2, o2⟩ := cb2 s1 hK
  have s2 := e2.sh s1
  obtain ⟨h3, a3, e3, ⟨f3, f3'⟩, o3, o3'⟩ := cb3 s2 hK
  have s3 := e3.sh s2
  obtain ⟨h4, a4, e4, ⟨f4, f4', f4''⟩, o4, o4', o4''⟩ := cb4 s3 hK
  have E : Eqc (fun x => x < 291 ∨ x = 295 ∨ 299 ≤ x) h h4 := (((e1.im (fun x hx => by omega)).tr (e2.im (fun x hx => by omega))).tr (e3.im (fun x hx => by omega))).tr (e4.im (fun x hx => by omega))
  have t1 : h4.2.1 291 = h1.2.1 291 := (e4.2.2 291 (by decide)).1.trans ((e3.2.2 291 (by decide)).1.trans (e2.2.2 291 (by decide)).1)
  have t2 : h4.2.1 292 = h2.2.1 292 := (e4.2.2 292 (by decide)).1.trans (e3.2.2 292 (by decide)).1
  have t3 : h4.2.1 293 = h3.2.1 293 := (e4.2.2 293 (by decide)).1
  have t4 : h4.2.1 294 = h3.2.1 294 := (e4.2.2 294 (by decide)).1
  have E2 : Eqc (fun x => x ≠ 291 ∧ x ≠ 292) h h2 := (e1.im (fun x hx => by omega)).tr (e2.im (fun x hx => by omega))
  have E3 : Eqc (fun x => x ≠ 291 ∧ x ≠ 292 ∧ x ≠ 293 ∧ x ≠ 294) h h3 := (E2.im (fun x hx => by omega)).tr (e3.im (fun x hx => by omega))
  refine ⟨h4, by simp only [fX13_comesBack, dnB_eval, a1, a2, a3, a4, dnP], E, fun g hg => ?_, fun k hk => ?_, fun n hn => ⟨?_, ?_, fun i hi => ⟨?_, ?_, ?_⟩⟩⟩
  · show h4.2.1 291 g = h.2.1 309 (4 * K + g)
    rw [t1, f1 g hg]
  · show h4.2.1 292 k = h.2.1 310 (24 * K + k)
    rw [t2, f2 k hk]
    exact congrFun (e1.2.2 310 (by decide)).1 _
  · show h4.2.1 293 n = h.2.1 311 (32 * K + n)
    rw [t3, f3 n (by omega)]
    exact congrFun (E2.2.2 311 (by decide)).1 _
  · show h4.2.1 294 n = h.2.1 312 (32 * K + n)
    rw [t4, f3' n (by omega)]
    exact congrFun (E2.2.2 312 (by decide)).1 _
  · show h4.2.1 296 (12 * n + i) = h.2.1 313 (384 * K + (12 * n + i))
    rw [f4 (12 * n + i) (by omega)]
    exact congrFun (E3.2.2 313 (by decide)).1 _
  · show h4.2.2.1 297 (12 * n + i) = h.2.2.1 314 (384 * K + (12 * n + i))
    rw [f4' (12 * n + i) (by omega)]
    exact congrFun (E3.2.2 314 (by decide)).2.1 _
  · show h4.2.2.2.1 298 (12 * n + i) = h.2.2.2.1 315 (384 * K + (12 * n + i))
    rw [f4'' (12 * n + i) (by omega)]
    exact congrFun (E3.2.2 315 (by decide)).2.2 _
