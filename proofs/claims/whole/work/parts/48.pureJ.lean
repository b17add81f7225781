/-! PURE 19: a row asked for, in both -/
theorem lookRow {B : Nat} {h : dnH} (a : Rel B h) (g p : Int32) :
    (∃ f : Int32, f < 0 ∧ (inB g 0 3 = false → f = -1) ∧ fX9_rowAt (some 1) g p h = some (none, h) ∧ fX9_rowFault (some 1) g p h = some (f, h) ∧ (inB g 0 3 = true → ∀ k : dnH, Sh k → k.2.1 291 = h.2.1 291 → k.2.1 292 = h.2.1 292 → fX13_rowFault (some 289) g p k = some (f, k))) ∨
    (∃ G q m r : Nat, G < 4 ∧ q < m ∧ m ≤ 6 ∧ r < 31 ∧ g = nI G ∧ p = nI q ∧ h.2.1 2 G = nI m ∧ h.2.1 3 (6 * G + q) = nI r ∧ inB g 0 3 = true ∧ rowRel B (vS h 1) (vR h) r ∧ fX9_rowAt (some 1) g p h = some (some (5 + 4 * r), h) ∧ ∀ k : dnH, Sh k → k.2.1 291 = h.2.1 291 → k.2.1 292 = h.2.1 292 → fX13_rowFault (some 289) g p k = some (0, k) ∧ fX13_held (some 289) g p k = some (nI r, k)) := by
  have hh := a.1
  rcases look a g p with hb | ⟨G, hG, rfl, hp, hq, hc⟩
  · exact .inl ⟨-1, by decide, fun _ => rfl, rowAt_bad hh hb p, rowFault_bad hh hb p, fun hc => (by rw [hb] at hc; cases hc)⟩
  · rcases hc with hc | ⟨m, q, hm, hqm, hx, rfl, hc⟩
    · refine .inl ⟨pf (h.2.1 2 G) p, ?_, fun hb => (by rw [inB_grid hG] at hb; cases hb), rowAt_out hh hG hc, rowFault_out hh hG hc, fun _ k hk e1 e2 => ?_⟩
      · unfold pf at hc ⊢
        by_cases c : h.2.1 2 G < 0
        · rw [if_pos c]; decide
        · rw [if_neg c] at hc ⊢
          by_cases c2 : (0 ≤ p ∧ p < h.2.1 2 G)
          · rw [if_pos c2] at hc
            exact absurd rfl hc
          · rw [if_neg c2]; decide
      · have e : k.2.1 291 G = h.2.1 2 G := by rw [e1, hq]
        have hf := rowFault_rOut hk hG (by rw [e]; exact hp) (p := p) (by rw [e]; exact hc)
        rw [e] at hf
        exact hf
    · rcases hc with ⟨hc, hr⟩ | ⟨r, hr, c1, c2, w⟩
      · refine .inl ⟨if h.2.1 3 (6 * G + q) = -14 then -4 else -5, by split <;> decide, fun hb => (by rw [inB_grid hG] at hb; cases hb), rowAt_no hh hG hm hx hqm hc, rowFault_in hh hG hm hx hqm, fun _ k hk e1 e2 => ?_⟩
        have hf := rowFault_rIn hk hG hm (by rw [e1, hq, hx]) hqm
        rw [e2, hR_rf hr hc] at hf
        exact hf
      · refine .inr ⟨G, q, m, r, hG, hqm, hm, hr, rfl, rfl, hx, c1, inB_grid hG, w, rowAt_yes hh hG hm hx hqm hr c1, fun k hk e1 e2 => ⟨?_, ?_⟩⟩
        · have hf := rowFault_rIn hk hG hm (by rw [e1, hq, hx]) hqm
          rw [e2, c2, (by decide +kernel : ∀ r, r < 31 → rfR (nI r) = 0) r hr] at hf
          exact hf
        · rw [held_r hk hG (show q < 6 by omega), e2, c2]
