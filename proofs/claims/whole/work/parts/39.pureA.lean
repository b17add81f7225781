/-! PURE 10: cells and states that are well -/
def valOk (B s : Nat) (N : Int64) (D : UInt64) : Prop := (s ≤ 4 → -2 ^ 31 ≤ N.toInt ∧ N.toInt < 2 ^ 31) ∧ (s = 0 → N = 0 ∨ N = 1) ∧ (isRlN s = false → D = FP.dconst0) ∧ (isRlN s = true → N = 0) ∧ (s = 11 → N = 0) ∧ (s = 6 → Fl B D) ∧ (s = 7 → DB B D)
theorem valOk.mono {B B2 s : Nat} {N : Int64} {D : UInt64} (h : valOk B s N D) (hB : B ≤ B2) : valOk B2 s N D :=
  ⟨h.1, h.2.1, h.2.2.1, h.2.2.2.1, h.2.2.2.2.1, fun e => (h.2.2.2.2.2.1 e).mono hB, fun e => (h.2.2.2.2.2.2 e).mono hB⟩
theorem i32_range (x : Int32) : -2 ^ 31 ≤ x.toInt64.toInt ∧ x.toInt64.toInt < 2 ^ 31 := by
  rw [Int32.toInt_toInt64]
  have h1 := Int32.le_toInt x
  have h2 := Int32.toInt_lt x
  exact ⟨h1, h2⟩
theorem and1 (v : Int64) : v &&& 1 = 0 ∨ v &&& 1 = 1 := by
  have h : (v &&& 1).toBitVec.toNat = v.toBitVec.toNat % 2 := by
    rw [Int64.toBitVec_and, BitVec.toNat_and]
    exact Nat.and_one_is_mod _
  rcases Nat.mod_two_eq_zero_or_one v.toBitVec.toNat with e | e
  · left
    exact Int64.toBitVec_inj.mp (BitVec.eq_of_toNat_eq (by rw [h, e]; rfl))
  · right
    exact Int64.toBitVec_inj.mp (BitVec.eq_of_toNat_eq (by rw [h, e]; rfl))
theorem valOk_mk {s : Nat} (hs : s < 12) (v : Int64) : valOk 16 s (mkN s v) (mkD s v) := by
  refine ⟨fun h => ?_, fun h => ?_, fun h => ?_, fun h => ?_, fun h => ?_, fun h => ?_, fun h => ?_⟩
  · rcases (by omega : s = 0 ∨ s = 1 ∨ s = 2 ∨ s = 3 ∨ s = 4) with c | c | c | c | c
    · subst c
      rw [show mkN 0 v = v &&& 1 from rfl]
      rcases and1 v with e | e <;> rw [e] <;> decide
    · subst c
      rw [show mkN 1 v = v.toInt32.toInt8.toInt32.toInt64 from rfl]
      exact i32_range _
    · subst c
      rw [show mkN 2 v = (v.toInt32.toUInt32 % 65536).toInt32.toInt64 from rfl]
      exact i32_range _
    · subst c
      rw [show mkN 3 v = v.toInt32.toInt16.toInt32.toInt64 from rfl]
      exact i32_range _
    · subst c
      rw [show mkN 4 v = v.toInt32.toInt64 from rfl]
      exact i32_range _
  · subst h; exact and1 v
  · unfold mkD
    have : ¬ (s = 6 ∨ s = 7) := by simpa [isRlN] using h
    rw [if_neg (fun e => this (.inl e)), if_neg (fun e => this (.inr e))]
  · have : s = 6 ∨ s = 7 := by simpa [isRlN] using h
    unfold mkN
    rcases this with c | c <;> subst c <;> rfl
  · subst h; rfl
  · subst h; exact mkD_6 v
  · subst h; exact mkD_7 v
/-- what a cell of kind kd gets of a value -/
def cvNN (kd : Nat) (n : Int64) : Int64 := if isRlN kd then 0 else n
theorem valOk_cv {B kd s : Nat} {n : Int64} {d : UInt64} (hB : 16 ≤ B) (hkd : kd < 12) (hs : s < 12) (ht : tk kd s = true) (h : valOk B s n d) : valOk B (cvS kd s) (cvNN kd n) (cvR kd s n d) ∧ tk kd (cvS kd s) = true ∧ (kd < 8 → cvS kd s = kd) ∧ cvS kd s < 12 := by
  obtain ⟨h1, h2, h3, h4, h5, h6, h7⟩ := h
  by_cases k8 : kd < 8
  · have hS : cvS kd s = kd := if_pos k8
    rw [hS]
    have htt : tk kd kd = true := (by decide +kernel : ∀ k, k < 8 → tk k k = true) kd k8
    refine ⟨?_, htt, fun _ => rfl, hkd⟩
    by_cases hr : isRlN kd = true
    · have k67 : kd = 6 ∨ kd = 7 := by simpa [isRlN] using hr
      unfold cvNN
      rw [if_pos hr]
      refine ⟨fun hc => by omega, fun hc => by omega, fun hc => (by rw [hr] at hc; cases hc), fun _ => rfl, fun hc => by omega, fun hc => ?_, fun hc => ?_⟩
      · subst hc
        unfold cvR cvF
        rw [if_pos rfl]
        rcases (by decide +kernel : ∀ s, s < 12 → tk 6 s = true → s = 6 ∨ (s < 6 ∧ isRlN s = false)) s hs ht with c | ⟨c, c2⟩
        · subst c
          rw [if_pos (by decide), (h6 rfl).back]
          exact h6 rfl
        · rw [if_neg (by rw [c2]; decide)]
          exact (fl_l2f n).mono hB
      · subst hc
        unfold cvR cvD
        rw [if_neg (by decide), if_pos rfl]
        rcases (by decide +kernel : ∀ s, s < 12 → tk 7 s = true → s = 6 ∨ s = 7 ∨ (s < 6 ∧ isRlN s = false)) s hs ht with c | c | ⟨c, c2⟩
        · subst c
          rw [if_pos (by decide)]
          exact (h6 rfl).db
        · subst c
          rw [if_pos (by decide)]
          exact h7 rfl
        · rw [if_neg (by rw [c2]; decide)]
          exact (db_l2d n).mono hB
    · have hr' : isRlN kd = false := by simpa using hr
      have k67 : ¬ (kd = 6 ∨ kd = 7) := by simpa [isRlN] using hr'
      have hd : cvR kd s n d = d := by unfold cvR; rw [if_neg (fun e => k67 (.inl e)), if_neg (fun e => k67 (.inr e))]
      have g1 := (by decide +kernel : ∀ k, k < 8 → ∀ s, s < 12 → tk k s = true → k ≤ 4 → s ≤ 4) kd k8 s hs ht
      have g2 := (by decide +kernel : ∀ k, k < 8 → ∀ s, s < 12 → tk k s = true → k = 0 → s = 0) kd k8 s hs ht
      have g3 := (by decide +kernel : ∀ k, k < 8 → ∀ s, s < 12 → tk k s = true → isRlN k = false → isRlN s = false) kd k8 s hs ht hr'
      unfold cvNN
      rw [if_neg hr, hd]
      exact ⟨fun hc => h1 (g1 hc), fun hc => h2 (g2 hc), fun _ => h3 g3, fun hc => absurd hc hr, fun hc => by omega, fun hc => absurd (.inl hc) k67, fun hc => absurd (.inr hc) k67⟩
  · have hS : cvS kd s = s := if_neg k8
    have k67 : ¬ (kd = 6 ∨ kd = 7) := by omega
    have hd : cvR kd s n d = d := by unfold cvR; rw [if_neg (fun e => k67 (.inl e)), if_neg (fun e => k67 (.inr e))]
    have hn : cvNN kd n = n := by unfold cvNN; rw [if_neg (by simpa [isRlN] using k67)]
    rw [hS, hd, hn]
    exact ⟨⟨h1, h2, h3, h4, h5, h6, h7⟩, ht, fun hc => absurd hc k8, hs⟩
def cellOk (B kd : Nat) (S : Int32) (N : Int64) (D : UInt64) : Prop := ∃ s, s < 12 ∧ S = nI s ∧ tk kd s = true ∧ (kd < 8 → s = kd) ∧ valOk B s N D
theorem cellOk.mono {B B2 kd : Nat} {S : Int32} {N : Int64} {D : UInt64} (h : cellOk B kd S N D) (hB : B ≤ B2) : cellOk B2 kd S N D := by
  obtain ⟨s, h1, h2, h3, h4, h5⟩ := h
  exact ⟨s, h1, h2, h3, h4, h5.mono hB⟩
theorem cellOk_cv {B kd s : Nat} {n : Int64} {d : UInt64} (hB : 16 ≤ B) (hkd : kd < 12) (hs : s < 12) (ht : tk kd s = true) (h : valOk B s n d) : cellOk B kd (nI (cvS kd s)) (cvNN kd n) (cvR kd s n d) := by
  obtain ⟨a1, a2, a3, a4⟩ := valOk_cv hB hkd hs ht h
  exact ⟨_, a4, rfl, a2, a3, a1⟩
theorem fpOk_of {B kd s : Nat} {n : Int64} {d : UInt64} (hs : s < 12) (ht : tk kd s = true) (h : valOk B s n d) : fpOk kd s n d := by
  intro hk
  subst hk
  rcases (by decide +kernel : ∀ s, s < 12 → tk 6 s = true → s = 6 ∨ (s < 6 ∧ isRlN s = false)) s hs ht with c | ⟨c, c2⟩
  · subst c
    have hF := h.2.2.2.2.2.1 rfl
    unfold cvF
    rw [if_pos (by decide)]
    exact ⟨hF.fb.d.ok, fun _ => hF.fb.ok⟩
  · unfold cvF
    rw [if_neg (by rw [c2]; decide)]
    exact ⟨ok_l2f n, fun hc => by rw [c2] at hc; cases hc⟩
/-- an empty cell of a kind -/
theorem cellOk_new {kd B : Nat} (hkd : kd < 12) (hB : 16 ≤ B) : cellOk B kd (nI (if kd < 8 then kd else 11)) 0 FP.dconst0 := by
  have hz : Fl B FP.dconst0 := Fl.mono ⟨0, fb_of (K := 1) (by decide) (by decide), by decide +kernel⟩ hB
  obtain ⟨g1, g2, g3⟩ := (by decide +kernel : ∀ k, k < 12 → (if k < 8 then k else 11) < 12 ∧ tk k (if k < 8 then k else 11) = true ∧ (k < 8 → (if k < 8 then k else 11) = k)) kd hkd
  exact ⟨_, g1, rfl, g2, g3, fun _ => by decide, fun _ => .inl rfl, fun _ => rfl, fun _ => rfl, fun _ => rfl, fun _ => hz, fun _ => hz.db⟩
