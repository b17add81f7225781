/-! PURE 21: type, clear, sees, forget -/
def Pt (x : Nat) : Prop := x ≠ 281 ∧ x ≠ 282 ∧ x ≠ 285 ∧ x ≠ 286 ∧ x ≠ 287 ∧ x ≠ 289 ∧ x ≠ 316 ∧ x ≠ 319 ∧ x ≠ 320
theorem rel_tg {B : Nat} {h k : dnH} (a : Rel B h) (e : Eqc Pt h k) (n1 : k.2.2.1 289 1 = h.2.2.1 289 1) (n2 : k.2.1 289 2 = h.2.1 289 2) (n3 : k.2.1 289 3 = h.2.1 289 3) (ht : txRel k) (hg : gsRel k) : Rel B k := by
  obtain ⟨a1, a2, a3, a4, a5, a6, a7, a8, a9, b1, b2, b3, b4⟩ := a
  refine ⟨e.sh a1, by rw [e.1]; exact a2, fun r hr => ?_, fun p hp => ?_, fun r hr => ?_, ?_, ?_, ?_, ht, hg, ?_, ?_, b4.go e⟩
  · rw [(e.2.2 (5 + 4 * r) (by unfold Pt; omega)).1]; exact a3 r hr
  · rw [(e.2.2 3 (by unfold Pt; decide)).1]; exact a4 p hp
  · rw [(e.2.2 295 (by unfold Pt; decide)).1]; exact a5 r hr
  · rw [vR_go e (fun x h1 h2 h3 => by unfold Pt; omega)]
    exact stRel_goC e (fun x h1 h2 => by unfold Pt; omega) a6
  · unfold ntRel
    rw [n1, n2, n3, (e.2.2 258 (by unfold Pt; decide)).1, (e.2.2 258 (by unfold Pt; decide)).2.1]
    exact a7
  · exact a8.go e (by unfold Pt; decide) (by unfold Pt; decide)
  · exact imRel.go (P := fun x => (308 ≤ x ∧ x ≤ 315) ∨ 321 ≤ x) (e.im (fun x hx => by unfold Pt; omega)) (fun x h1 h2 => .inl ⟨h1, h2⟩) (fun x h1 => .inr h1) b2
  · exact imRel.go (P := fun x => (308 ≤ x ∧ x ≤ 315) ∨ 321 ≤ x) (e.im (fun x hx => by unfold Pt; omega)) (fun x h1 h2 => .inl ⟨h1, h2⟩) (fun x h1 => .inr h1) b3
theorem upNe {α : Type} {f : Nat → Nat → α} {a k x y : Nat} {v : α} (h : x ≠ a ∨ y ≠ k) : dnUp f a k v x y = f x y := by
  unfold dnUp
  exact if_neg (fun hc => h.elim (fun h1 => h1 hc.1) (fun h1 => h1 hc.2))
theorem call_clear (B : Nat) : Call B B (fX12_clear (some 0)) (fX13_clear (some 289)) := fun h a => by
  have hh := a.1
  obtain ⟨n, hn, t1, t2, t3⟩ := a.2.2.2.2.2.2.2.2.1
  have h1 : Sh (dnSI h 281 1 0) := hh
  refine ⟨nI n, dnSI h 281 1 0, dnSI (dnSI h 281 1 0) 289 37 0, ?_, ?_, ?_⟩
  · simp only [fX12_clear, fX3_empty, dnB_eval, g_0_9 hh, v_281 hh, g_281_1 hh, t1, p_281_1 hh, dnP]
  · have t2' : (dnSI h 281 1 0).2.1 289 37 = nI n := t2
    simp only [fX13_clear, dnB_eval, g_289_37 h1, p_289_37 h1, t2', dnP]
  · refine rel_tg a ((eqc_SI (by unfold Pt; decide)).tr (eqc_SI (by unfold Pt; decide))) rfl ?_ ?_ ?_ ?_
    · simp [dnSI, dnUp]
    · simp [dnSI, dnUp]
    · refine ⟨0, by decide, ?_, ?_, fun i hi => by omega⟩
      · simp [dnSI, dnUp, nI_0]
      · simp [dnSI, dnUp, nI_0]
    · obtain ⟨m, q1, q2, q3, q4⟩ := a.2.2.2.2.2.2.2.2.2.1
      exact ⟨m, q1, q2, q3, q4⟩
theorem call_forget (B : Nat) : Call B B (fX12_forget (some 0)) (fX13_forget (some 289)) := fun h a => by
  have hh := a.1
  obtain ⟨n, hn, t1, t2, t3⟩ := a.2.2.2.2.2.2.2.2.2.1
  have h1 : Sh (dnSI h 285 3 0) := hh
  refine ⟨nI n, dnSI h 285 3 0, dnSI (dnSI h 285 3 0) 289 43 0, ?_, ?_, ?_⟩
  · simp only [fX12_forget, fX1_removeAll, dnB_eval, g_0_10 hh, v_285 hh, g_285_3 hh, t1, p_285_3 hh, dnP]
  · have t2' : (dnSI h 285 3 0).2.1 289 43 = nI n := t2
    simp only [fX13_forget, dnB_eval, g_289_43 h1, p_289_43 h1, t2', dnP]
  · refine rel_tg a ((eqc_SI (by unfold Pt; decide)).tr (eqc_SI (by unfold Pt; decide))) rfl ?_ ?_ ?_ ?_
    · simp [dnSI, dnUp]
    · simp [dnSI, dnUp]
    · obtain ⟨m, q1, q2, q3, q4⟩ := a.2.2.2.2.2.2.2.2.1
      exact ⟨m, q1, q2, q3, q4⟩
    · refine ⟨0, by decide, ?_, ?_, fun i hi => by omega⟩
      · simp [dnSI, dnUp, nI_0]
      · simp [dnSI, dnUp, nI_0]
