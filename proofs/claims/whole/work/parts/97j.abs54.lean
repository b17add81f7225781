/-! ABS 54: regions: the reference's growing -/
theorem cN_up1 {S : Nat → Bool} {b : Nat} (hb : S b = false) (h72 : b < 72) : cN (upO S b) 72 = cN S 72 + 1 := by
  have := cN_up (F := fun _ => true) hb 72
  rw [if_pos ⟨h72, rfl⟩] at this
  rw [cN_congr (G := fun c => upO S b c && true) 72 (fun i _ => (Bool.and_true _).symm), this, cN_congr (F := fun c => S c && true) (G := S) 72 (fun i _ => Bool.and_true _)]
theorem noMarks_r {q0 h : dnH} {X : List Nat} {A : Ab} (c : RS q0 X h A) : ∃ h2, fX13_noMarks (some 289) h = some ((), h2) ∧ RS q0 X h2 A ∧ Mk h2 (fun _ => 0) := by
  have KK := it_inv (f := fX13_noMarks_b2 (some 289)) (Q := fun _ k => RS q0 X k A ∧ Mk k (fun _ => 0)) (fun x u k => u = nI x ∧ RS q0 X k A ∧ ∀ y, y < x → k.2.1 307 y = nI 0) 72 1000 0 (by omega) (by omega) ?_ ?_ (nI 0) h ⟨rfl, c, fun y hy => by omega⟩
  · obtain ⟨q, h2, b1, c2, k2⟩ := KK
    rw [nI_0] at b1
    exact ⟨h2, by simp only [fX13_noMarks, dnB_eval, b1, dnP], c2, k2⟩
  · rintro x u k hx ⟨rfl, ck, hk⟩
    left
    have hc : ¬ ((72 : Int32) ≤ nI x) := fun hc => by have := (nI_leI (a := 72) (b := x) (by omega) (by omega)).mp hc; omega
    refine ⟨nI (x + 1), dnSI k 307 x 0, ?_, rfl, set307 ck, fun y hy => ?_⟩
    · simp only [fX13_noMarks_b2, hc, if_false, dnB_eval, g_289_26 ck.1, t_307 ck.1, dnIn_nI hx (by decide), nI_clamp (show x < 2 ^ 31 by omega), if_true, dnP, nI_1]
    · have e : (dnSI k 307 x 0).2.1 307 y = if y = x then 0 else k.2.1 307 y := by simp [dnSI, dnSL, dnSD, dnUp]
      rw [e]
      by_cases q : y = x
      · rw [if_pos q]; rfl
      · rw [if_neg q]; exact hk y (by omega)
  · rintro u k ⟨rfl, ck, hk⟩
    have hc : ((72 : Int32) ≤ nI 72) := by decide
    exact ⟨(), k, by simp only [fX13_noMarks_b2, hc, if_true, dnP], ck, fun y hy => hk y hy⟩
def Gd (A : Ab) (G m s : Nat) (T : Nat → Bool) : Prop := (∀ c, T c = true → Cl (nbr (sg A G m)) s c ∧ (ceO (sg A G m) c).isSome = true) ∧ T s = true
theorem pass_r {B : Nat} {A : Ab} (w : Wf B [] A) {G m s K : Nat} {ol : Nat → Nat} {T : Nat → Bool} (hG : G < 4) (hm : m ≤ 6) (e1 : A.1 G = nI m) (hK : K < 2 ^ 31) (hol : ∀ c, c < 72 → ol c < K) (gd : Gd A G m s T) {q0 h : dnH} {X : List Nat} (c : RS q0 X h A) (k : Mk h (lbl ol T K)) : ∃ h2 T2 b, dnIt 1000 (fX13_grows_b24 (some 289) (nI G) (nI K)) (nI (cN T 72), false, 0) h = some ((nI (cN T2 72), b), h2) ∧ RS q0 X h2 A ∧ Mk h2 (lbl ol T2 K) ∧ Gd A G m s T2 ∧ ((b = false ∧ T2 = T ∧ ∀ x, x < 72 → T x = false → ol x = 0 → ¬ ∃ y, T y = true ∧ nbr (sg A G m) y x = true) ∨ (b = true ∧ cN T 72 < cN T2 72)) := by
  have KK := it_inv (f := fX13_grows_b24 (some 289) (nI G) (nI K)) (Q := fun q k => ∃ T2 b, q = (nI (cN T2 72), b) ∧ RS q0 X k A ∧ Mk k (lbl ol T2 K) ∧ Gd A G m s T2 ∧ ((b = false ∧ T2 = T ∧ ∀ x, x < 72 → T x = false → ol x = 0 → ¬ ∃ y, T y = true ∧ nbr (sg A G m) y x = true) ∨ (b = true ∧ cN T 72 < cN T2 72))) (fun j u k => ∃ T2 b, u = (nI (cN T2 72), b, nI j) ∧ RS q0 X k A ∧ Mk k (lbl ol T2 K) ∧ Gd A G m s T2 ∧ ((b = false ∧ T2 = T ∧ ∀ x, x < j → T x = false → ol x = 0 → ¬ ∃ y, T y = true ∧ nbr (sg A G m) y x = true) ∨ (b = true ∧ cN T 72 < cN T2 72))) 72 1000 0 (by omega) (by omega) ?_ ?_ (nI (cN T 72), false, nI 0) h ⟨T, false, rfl, c, k, gd, .inl ⟨rfl, rfl, fun x hx => by omega⟩⟩
  · obtain ⟨q, h2, b1, T2, b, rfl, x1, x2, x3, x4⟩ := KK
    exact ⟨h2, T2, b, b1, x1, x2, x3, x4⟩
  · rintro j u k hj ⟨T2, b, rfl, ck, mk, gd2, hb⟩
    left
    have hc : ¬ ((72 : Int32) ≤ nI j) := fun hc => by have := (nI_leI (a := 72) (b := j) (by omega) (by omega)).mp hc; omega
    have mj := mk_A ck mk hj
    have hoj := hol j hj
    have lj : lbl ol T2 K j < 2 ^ 31 := by unfold lbl; split <;> omega
    have ez : (nI (lbl ol T2 K j) = 0) ↔ lbl ol T2 K j = 0 := nI_eq (b := 0) lj (by decide)
    by_cases q : lbl ol T2 K j = 0
    · have q0' := ez.mpr q
      have qT : T2 j = false ∧ ol j = 0 := by
        unfold lbl at q
        cases h : T2 j with
        | true => rw [h, if_pos rfl] at q; omega
        | false => rw [h, if_neg (by decide)] at q; exact ⟨rfl, q⟩
      obtain ⟨v, y1, y2⟩ := beside_r w hG hm e1 hj hK hol (fun c hc => (gd2.1 c hc).2) ck mk
      cases v with
      | false =>
        refine ⟨(nI (cN T2 72), b, nI (j + 1)), k, ?_, T2, b, rfl, ck, mk, gd2, ?_⟩
        · simp only [fX13_grows_b24, fX13_grows_j66, hc, if_false, dnB_eval, g_289_26 ck.1, mj, q0', not_true_eq_false, v_289 ck.1, y1, Bool.false_eq_true, dnP, nI_1]
        · rcases hb with ⟨hb1, hb2, hb3⟩ | hb
          · refine .inl ⟨hb1, hb2, fun x hx hT ho => ?_⟩
            by_cases e : x = j
            · subst e
              subst hb2
              intro hh
              have := y2.mpr hh
              cases this
            · exact hb3 x (by omega) hT ho
          · exact .inr hb
      | true =>
        obtain ⟨z1, z2, z3⟩ := mk_set (v := K) ck mk hj
        have z3 : Mk (dnSI k 307 j (nI K)) (lbl ol (upO T2 j) K) := by rw [← lbl_up]; exact z3
        obtain ⟨y, hy1, hy2⟩ := y2.mp rfl
        refine ⟨(nI (cN T2 72 + 1), true, nI (j + 1)), dnSI k 307 j (nI K), ?_, upO T2 j, true, ?_, z2, z3, ⟨fun x hx => ?_, upO_in gd2.2⟩, .inr ⟨rfl, ?_⟩⟩
        · simp only [fX13_grows_b24, fX13_grows_j66, hc, if_false, dnB_eval, g_289_26 ck.1, mj, q0', not_true_eq_false, v_289 ck.1, y1, if_true, z1, dnP, nI_1]
        · rw [cN_up1 qT.1 hj]
        · rcases upO_of hx with hx | hx
          · exact gd2.1 x hx
          · rw [hx]
            exact ⟨cl_step (gd2.1 y hy1).1 hy2, (nbr_some hy2).2⟩
        · rw [cN_up1 qT.1 hj]
          rcases hb with ⟨hb1, hb2, hb3⟩ | ⟨hb1, hb2⟩
          · rw [hb2]; omega
          · omega
    · have q0' : ¬ nI (lbl ol T2 K j) = 0 := fun hh => q (ez.mp hh)
      refine ⟨(nI (cN T2 72), b, nI (j + 1)), k, ?_, T2, b, rfl, ck, mk, gd2, ?_⟩
      · simp only [fX13_grows_b24, fX13_grows_j66, hc, if_false, dnB_eval, g_289_26 ck.1, mj, q0', not_false_eq_true, if_true, dnP, nI_1]
      · rcases hb with ⟨hb1, hb2, hb3⟩ | hb
        · refine .inl ⟨hb1, hb2, fun x hx hT ho => ?_⟩
          by_cases e : x = j
          · subst e
            subst hb2
            exact absurd (show lbl ol T2 K x = 0 by unfold lbl; rw [hT, if_neg (by decide)]; exact ho) q
          · exact hb3 x (by omega) hT ho
        · exact .inr hb
  · rintro u k ⟨T2, b, rfl, ck, mk, gd2, hb⟩
    have hc : ((72 : Int32) ≤ nI 72) := by decide
    exact ⟨(nI (cN T2 72), b), k, by simp only [fX13_grows_b24, hc, if_true, dnP], T2, b, rfl, ck, mk, gd2, hb⟩
theorem grows_r {B : Nat} {A : Ab} (w : Wf B [] A) {G m s K : Nat} {ol : Nat → Nat} {M : Nat → Bool} (hG : G < 4) (hm : m ≤ 6) (e1 : A.1 G = nI m) (hK : K < 2 ^ 31) (hol : ∀ c, c < 72 → ol c < K) (hMl : ∀ c, c < 72 → (M c = false ↔ ol c = 0)) (hM : clo (nbr (sg A G m)) M) (hs : M s = false) (ho : (ceO (sg A G m) s).isSome = true) {q0 h : dnH} {X : List Nat} (c : RS q0 X h A) (k : Mk h ol) : ∃ h2 T, fX13_grows (some 289) (nI G) (nI s) (nI K) h = some (nI (cN T 72), h2) ∧ RS q0 X h2 A ∧ Mk h2 (lbl ol T K) ∧ ∀ c, T c = true ↔ Cl (nbr (sg A G m)) s c := by
  have s72 := ce_lt hm ho
  obtain ⟨z1, z2, z3⟩ := mk_set (v := K) c k s72
  have z3 : Mk (dnSI h 307 s (nI K)) (lbl ol (upO (fun _ => false) s) K) := by
    rw [← lbl_up]
    exact z3
  have gd : Gd A G m s (upO (fun _ => false) s) := ⟨fun x hx => by
    rcases upO_of hx with hx | hx
    · cases hx
    · rw [hx]; exact ⟨cl_rf, ho⟩, upO_b⟩
  have c0 : cN (upO (fun _ => false) s) 72 = 1 := by
    rw [cN_up1 (S := fun _ => false) rfl s72]
    decide
  have KK := it_inv (f := fX13_grows_b13 (some 289) (nI G) (nI K)) (Q := fun q k => ∃ T, q = nI (cN T 72) ∧ RS q0 X k A ∧ Mk k (lbl ol T K) ∧ ∀ c, T c = true ↔ Cl (nbr (sg A G m)) s c) (fun t u k => ∃ T, u.1 = nI (cN T 72) ∧ RS q0 X k A ∧ Mk k (lbl ol T K) ∧ Gd A G m s T ∧ ((u.2 = true ∧ t + 1 ≤ cN T 72) ∨ (u.2 = false ∧ clo (nbr (sg A G m)) T))) 72 1000 0 (by omega) (by omega) ?_ ?_ (nI 1, true) (dnSI h 307 s (nI K)) ⟨_, by rw [c0], z2, z3, gd, .inl ⟨rfl, by rw [c0]; omega⟩⟩
  · obtain ⟨q, h2, b1, T, rfl, x1, x2, x3⟩ := KK
    have b1 : dnIt 1000 (fX13_grows_b13 (some 289) (nI G) (nI K)) (1, true) (dnSI h 307 s (nI K)) = some (nI (cN T 72), h2) := b1
    exact ⟨h2, T, by simp only [fX13_grows, dnB_eval, g_289_26 c.1, z1, b1, dnP], x1, x2, x3⟩
  · rintro t ⟨u1, u2⟩ k ht ⟨T, rfl, ck, mk, gd, hb⟩
    rcases hb with ⟨rfl, hb⟩ | ⟨rfl, hb⟩
    · left
      obtain ⟨h2, T2, b, y1, y2, y3, y4, y5⟩ := pass_r w hG hm e1 hK hol gd ck mk
      refine ⟨(nI (cN T2 72), b), h2, ?_, T2, rfl, y2, y3, y4, ?_⟩
      · simp only [fX13_grows_b13, if_true, dnB_eval, y1, dnP]
      · rcases y5 with ⟨rfl, rfl, y6⟩ | ⟨rfl, y6⟩
        · refine .inr ⟨rfl, fun x y hx hxy => ?_⟩
          have y72 := ce_lt hm (nbr_some hxy).2
          cases hy : T2 y with
          | true => rfl
          | false =>
            have hmy := cl_out nbr_comm hM hs (cl_step (gd.1 x hx).1 hxy)
            exact absurd ⟨x, hx, hxy⟩ (y6 y y72 hy ((hMl y y72).mp hmy))
        · exact .inl ⟨rfl, by omega⟩
    · right
      exact ⟨nI (cN T 72), k, by simp only [fX13_grows_b13, Bool.false_eq_true, if_false, dnP], T, rfl, ck, mk, cl_clo gd.2 hb (fun x hx => (gd.1 x hx).1)⟩
  · rintro ⟨u1, u2⟩ k ⟨T, rfl, ck, mk, gd, hb⟩
    rcases hb with ⟨rfl, hb⟩ | ⟨rfl, hb⟩
    · have := cN_le T 72
      omega
    · exact ⟨nI (cN T 72), k, by simp only [fX13_grows_b13, Bool.false_eq_true, if_false, dnP], T, rfl, ck, mk, cl_clo gd.2 hb (fun x hx => (gd.1 x hx).1)⟩
