/-! PURE 9: floats as doubles -/
theorem fnD_nan {d : FP.Core.Datum} (h : fnD d) : d ≠ .nan := by
  obtain ⟨s, c, q, rfl⟩ := h
  exact FP.Core.Datum.noConfusion
theorem nn64 {a : UInt64} (h : fnD (FP.Core.val64 a)) : FP.Core.dIsNaN a = false := (FP.Core.notNaN_iff a).mpr (fnD_nan h)
theorem nn32 {a : UInt32} (h : fnD (FP.Core.val32 a)) : FP.Core.fIsNaN a = false := (FP.Core.notNaN_iff32 a).mpr (fnD_nan h)
theorem FB.d {n : Nat} {a : UInt32} (h : FB n a) : DB n (FP.f2d a) := by
  have hc : FP.f2d a = FP.Core.f2d a := FP.f2d_core (nn32 h.1)
  obtain ⟨⟨s, c, q, e⟩, z⟩ := h
  have hfit := FP.Core.val32_fits a
  rw [e] at hfit z
  obtain ⟨f1, f2, f3, -⟩ := hfit
  have q1 : FP.Core.b32.qmin = -149 := FP.Core.qmin_b32
  have q2 : FP.Core.b64.qmin = -1074 := FP.Core.qmin_b64
  have q3 : FP.Core.b32.qmax ≤ FP.Core.b64.qmax := by decide
  obtain ⟨c', q', hr, hz⟩ := FP.Core.round_exact FP.Core.good_b64 s (c := c) (q := q) (Nat.lt_of_lt_of_le f1 (Nat.pow_le_pow_right (by decide) (by decide))) (by omega) (by omega)
  unfold DB
  rw [hc, FP.Core.val64_f2d, e, hr]
  refine ⟨⟨_, _, _, rfl⟩, ?_⟩
  show FP.Core.inUnits c' q' FP.Core.b64.qmin ≤ _
  rw [hz]
  have z2 : FP.Core.inUnits c q FP.Core.b32.qmin ≤ n * 2 ^ 210 := z
  unfold FP.Core.inUnits at z2 ⊢
  rw [show (q - FP.Core.b64.qmin).toNat = (q - FP.Core.b32.qmin).toNat + 925 by omega, Nat.pow_add, ← Nat.mul_assoc]
  rw [show (1135 : Nat) = 210 + 925 from rfl, Nat.pow_add 2 210 925, ← Nat.mul_assoc]
  exact Nat.mul_le_mul_right _ z2
theorem d2f_f2d' {n : Nat} {a : UInt32} (h : FB n a) : FP.d2f (FP.f2d a) = a := by
  rw [FP.d2f_core (nn64 h.d.1), FP.f2d_core (nn32 h.1)]
  exact FP.Core.d2f_f2d (fnD_nan h.1)
/-- a double that is a float's -/
def Fl (n : Nat) (d : UInt64) : Prop := ∃ f : UInt32, FB n f ∧ d = FP.f2d f
theorem Fl.db {n : Nat} {d : UInt64} (h : Fl n d) : DB n d := by
  obtain ⟨f, h1, rfl⟩ := h
  exact h1.d
theorem Fl.fb {n : Nat} {d : UInt64} (h : Fl n d) : FB n (FP.d2f d) := by
  obtain ⟨f, h1, rfl⟩ := h
  rw [d2f_f2d' h1]
  exact h1
theorem Fl.back {n : Nat} {d : UInt64} (h : Fl n d) : FP.f2d (FP.d2f d) = d := by
  obtain ⟨f, h1, rfl⟩ := h
  rw [d2f_f2d' h1]
theorem Fl.mono {n m : Nat} {d : UInt64} (h : Fl n d) (hm : n ≤ m) : Fl m d := by
  obtain ⟨f, h1, rfl⟩ := h
  exact ⟨f, h1.mono hm, rfl⟩
theorem mkOk_all (s : Nat) (v : Int64) : mkOk s v := ⟨fun _ => ⟨(fb_div v).ok, (fb_div v).d.ok⟩, fun _ => (db_div v).ok⟩
theorem mkD_6 (v : Int64) : Fl 16 (mkD 6 v) := ⟨_, fb_div v, rfl⟩
theorem mkD_7 (v : Int64) : DB 16 (mkD 7 v) := db_div v
theorem fl_l2f (v : Int64) : Fl 16 (FP.f2d (FP.l2f v)) := ⟨_, fb_l2f v, rfl⟩
theorem ok_l2f (v : Int64) : ok64 (FP.f2d (FP.l2f v)) := (fl_l2f v).db.ok
theorem DB.mul8 {n : Nat} {a : UInt64} (h : DB n a) : ok64 (FP.dmul 4620693217682128896 a) := by
  rw [ok64_iff, ← FP.Core.notNaN_iff]
  exact FP.Core.dmul_out ((FP.Core.fin_bits _).mpr (by decide)) h.1
/-- the cell that comes of a value: the class's and the reference's are one -/
theorem cv_same {kd s B : Nat} {n : Int64} {d : UInt64} (hkd : kd < 12) (hs : s < 12) (ht : tk kd s = true) (h6 : s = 6 → Fl B d) (h67 : isRlN s = true → n = 0) : cvRr kd s n d = cvR kd s n d ∧ (isRlN kd = true → cvNr kd s n = 0) ∧ (isRlN kd = false → cvNr kd s n = n) := by
  have hlt : kd = 6 → s = 6 ∨ s < 6 := fun hk => by
    subst hk
    have := (by decide +kernel : ∀ s, s < 12 → tk 6 s = true → s = 6 ∨ s < 6) s hs ht
    exact this
  have hlt7 : kd = 7 → s = 7 ∨ s = 6 ∨ s < 6 := fun hk => by
    subst hk
    exact (by decide +kernel : ∀ s, s < 12 → tk 7 s = true → s = 7 ∨ s = 6 ∨ s < 6) s hs ht
  refine ⟨?_, fun hk => ?_, fun hk => ?_⟩
  · unfold cvRr cvR cvF cvD isRlN
    by_cases c6 : kd = 6
    · rcases hlt c6 with hs6 | hs6
      · simp [c6, hs6, (h6 hs6).back]
      · simp [c6, hs6, show ¬ s = 6 by omega, show ¬ s = 7 by omega]
    · by_cases c7 : kd = 7
      · rcases hlt7 c7 with hs6 | hs6 | hs6
        · simp [c7, hs6]
        · simp [c7, hs6]
        · simp [c7, hs6, show ¬ s = 6 by omega, show ¬ s = 7 by omega]
      · simp [c6, c7]
  · unfold cvNr
    by_cases hs6 : s < 6
    · simp [hk, hs6]
    · simp only [hk, hs6, decide_false, Bool.and_false, Bool.false_eq_true, if_false]
      refine h67 ?_
      have hk' : kd = 6 ∨ kd = 7 := by simpa [isRlN] using hk
      have : s = 6 ∨ s = 7 := by
        rcases hk' with h | h
        · have := hlt h; omega
        · have := hlt7 h; omega
      simpa [isRlN] using this
  · unfold cvNr
    simp [hk]
