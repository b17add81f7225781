/-! PURE 8: floating-point facts: what stays finite -/
theorem ok64_iff (x : UInt64) : ok64 x ↔ FP.Core.val64 x ≠ .nan := by
  rw [FP.Core.ne_nan]
  unfold ok64
  rw [UInt64.le_iff_toNat_le, UInt64.toNat_and, show (0x7fffffffffffffff : UInt64).toNat = 2 ^ 63 - 1 from rfl, Nat.and_two_pow_sub_one_eq_mod]
  rfl
theorem ok32_iff (x : UInt32) : ok32 x ↔ FP.Core.val32 x ≠ .nan := by
  rw [FP.Core.ne_nan32]
  unfold ok32
  rw [UInt32.le_iff_toNat_le, UInt32.toNat_and, show (0x7fffffff : UInt32).toNat = 2 ^ 31 - 1 from rfl, Nat.and_two_pow_sub_one_eq_mod]
  rfl
def fnD (d : FP.Core.Datum) : Prop := ∃ s c q, d = .fin s c q
theorem sum_bd {f : FP.Core.Fmt} (hf : FP.Core.Good f) {x y : FP.Core.Datum} {a b U : Nat} (fx : FP.Core.fits f x) (fy : FP.Core.fits f y) (hx : fnD x) (hy : fnD y) (zx : FP.Core.zmag f x ≤ a * 2 ^ U) (zy : FP.Core.zmag f y ≤ b * 2 ^ U) (hab : a + b < 2 ^ f.p) (hU : f.qmin + (U : Int) ≤ f.qmax) :
    fnD (FP.Core.round f (FP.Core.exactSum x y)) ∧ FP.Core.zmag f (FP.Core.round f (FP.Core.exactSum x y)) ≤ (a + b) * 2 ^ U := by
  obtain ⟨s, c, q, rfl⟩ := hx
  obtain ⟨t, d, r, rfl⟩ := hy
  obtain ⟨sg, v, e, p1, p2, p3⟩ := FP.Core.sum_units fx fy
  have h1 : FP.Core.inUnits v e f.qmin ≤ FP.Core.zmag f (.fin s c q) + FP.Core.zmag f (.fin t d r) := by
    have := congrArg Int.natAbs p3
    rw [FP.Core.natAbs_signed] at this
    rw [this]
    refine Nat.le_trans (Int.natAbs_add_le _ _) ?_
    unfold FP.Core.zval
    rw [FP.Core.natAbs_signed, FP.Core.natAbs_signed]
    exact Nat.le_refl _
  obtain ⟨c', q', hr, hz⟩ := FP.Core.round_exact hf false (c := a + b) (q := f.qmin + (U : Int)) hab (by omega) hU
  have hV := FP.Core.round_fits hf (.fin false (a + b) (f.qmin + (U : Int)))
  rw [hr] at hV
  have zV : FP.Core.zmag f (.fin false c' q') = (a + b) * 2 ^ U := by
    show FP.Core.inUnits c' q' f.qmin = _
    rw [hz]
    unfold FP.Core.inUnits
    rw [show (f.qmin + (U : Int) - f.qmin).toNat = U by omega]
  have key := FP.Core.zmag_roundRatio_le hf (s := sg) (A := v) (B := 1) (e := e) (e0 := f.qmin) (V := .fin false c' q') (by decide) hV FP.Core.Datum.noConfusion (Int.le_refl _) p2 (by
    rw [zV, Int.sub_self, Int.toNat_zero, Nat.pow_zero, Nat.mul_one, Nat.mul_one, Nat.add_mul]
    omega)
  rw [p1]
  rw [zV] at key
  refine ⟨?_, key⟩
  rcases FP.Core.roundRatio_cases f sg v 1 e with ⟨c2, q2, h2⟩ | h2
  · exact ⟨sg, c2, q2, h2⟩
  · exfalso
    rw [h2] at key
    have h3 := FP.Core.zmag_lt_top hf hV
    have h4 : FP.Core.inUnits c' q' f.qmin = (a + b) * 2 ^ U := zV
    rw [h4] at h3
    exact absurd h3 (Nat.not_lt.mpr key)
/-- a double, a float, of at most n times 2^61 -/
def DB (n : Nat) (a : UInt64) : Prop := fnD (FP.Core.val64 a) ∧ FP.Core.zmag FP.Core.b64 (FP.Core.val64 a) ≤ n * 2 ^ 1135
def FB (n : Nat) (a : UInt32) : Prop := fnD (FP.Core.val32 a) ∧ FP.Core.zmag FP.Core.b32 (FP.Core.val32 a) ≤ n * 2 ^ 210
theorem DB.ok {n : Nat} {a : UInt64} (h : DB n a) : ok64 a := by
  rw [ok64_iff]
  obtain ⟨⟨s, c, q, e⟩, -⟩ := h
  rw [e]
  exact FP.Core.Datum.noConfusion
theorem FB.ok {n : Nat} {a : UInt32} (h : FB n a) : ok32 a := by
  rw [ok32_iff]
  obtain ⟨⟨s, c, q, e⟩, -⟩ := h
  rw [e]
  exact FP.Core.Datum.noConfusion
theorem DB.mono {n m : Nat} {a : UInt64} (h : DB n a) (hm : n ≤ m) : DB m a := ⟨h.1, Nat.le_trans h.2 (Nat.mul_le_mul_right _ hm)⟩
theorem FB.mono {n m : Nat} {a : UInt32} (h : FB n a) (hm : n ≤ m) : FB m a := ⟨h.1, Nat.le_trans h.2 (Nat.mul_le_mul_right _ hm)⟩
theorem DB.add {n m : Nat} {a b : UInt64} (ha : DB n a) (hb : DB m b) (h : n + m < 2 ^ 53) : DB (n + m) (FP.dadd a b) := by
  have := sum_bd FP.Core.good_b64 (U := 1135) (FP.Core.val64_fits a) (FP.Core.val64_fits b) ha.1 hb.1 ha.2 hb.2 h (by decide)
  unfold DB
  rw [show FP.Core.val64 (FP.dadd a b) = _ from FP.Core.val64_dadd a b]
  exact this
theorem FB.add {n m : Nat} {a b : UInt32} (ha : FB n a) (hb : FB m b) (h : n + m < 2 ^ 24) : FB (n + m) (FP.fadd a b) := by
  have := sum_bd FP.Core.good_b32 (U := 210) (FP.Core.val32_fits a) (FP.Core.val32_fits b) ha.1 hb.1 ha.2 hb.2 h (by decide)
  unfold FB
  rw [show FP.Core.val32 (FP.fadd a b) = _ from FP.Core.val32_fadd a b]
  exact this
theorem db_of {a : UInt64} {K : Nat} (h : a.toNat % 2 ^ 63 < K * 2 ^ 52) (hK : K ≤ 1088) : DB 16 a := by
  have hf := FP.Core.fin_of_lt h (by omega)
  refine ⟨hf, ?_⟩
  rw [FP.Core.zmag_bits hf.ne_nan]
  rw [← FP.Core.tails_b64] at h
  obtain ⟨k1, l1⟩ := FP.Core.units_lt_start h
  refine Nat.le_trans (Nat.le_of_lt l1) ?_
  rw [FP.Core.tails_b64, show (16 : Nat) = 2 ^ 4 from rfl, ← Nat.pow_add, ← Nat.pow_add]
  exact Nat.pow_le_pow_right (by decide) (by omega)
theorem fb_of {a : UInt32} {K : Nat} (h : a.toNat % 2 ^ 31 < K * 2 ^ 23) (hK : K ≤ 192) : FB 16 a := by
  have hf := FP.Core.fin_of_lt32 h (by omega)
  refine ⟨hf, ?_⟩
  rw [FP.Core.zmag_bits32 hf.ne_nan]
  rw [← FP.Core.tails_b32] at h
  obtain ⟨k1, l1⟩ := FP.Core.units_lt_start h
  refine Nat.le_trans (Nat.le_of_lt l1) ?_
  rw [FP.Core.tails_b32, show (16 : Nat) = 2 ^ 4 from rfl, ← Nat.pow_add, ← Nat.pow_add]
  exact Nat.pow_le_pow_right (by decide) (by omega)
theorem db_l2d (v : Int64) : DB 16 (FP.l2d v) := db_of (FP.Core.l2d_mag v) (Nat.le_refl _)
theorem fb_l2f (v : Int64) : FB 16 (FP.l2f v) := fb_of (FP.Core.l2f_mag v) (Nat.le_refl _)
theorem db_div (v : Int64) : DB 16 (FP.ddiv (FP.l2d v) 4620693217682128896) :=
  db_of (FP.Core.ddiv_mag (K := 1088) (L := 1026) (FP.Core.l2d_mag v) (by decide) (by decide) (by decide) (by decide)) (by decide)
theorem fb_div (v : Int64) : FB 16 (FP.fdiv (FP.l2f v) 1090519040) :=
  fb_of (FP.Core.fdiv_mag (K := 192) (L := 130) (FP.Core.l2f_mag v) (by decide) (by decide) (by decide) (by decide)) (by decide)
