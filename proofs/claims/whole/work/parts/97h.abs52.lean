/-! ABS 52: regions: the class's spread, all of it -/
theorem sti_im {A : Ab} {G m s : Nat} {M : Nat → Bool} {h0 : dnH} {t : Nat} {S : Nat → Bool} {n : Nat} {L : Nat → Nat} {b b2 : Nat → Prop} {o : Option (Unit × dnH)} (h : StI A G m s M h0 t S n L b o) (hb : ∀ x, b2 x → nbr (sg A G m) (L t) x = true → b x) : StI A G m s M h0 t S n L b2 o := by
  obtain ⟨h2, S2, n2, L2, x1, x2, x3, x4, x5, x6⟩ := h
  exact ⟨h2, S2, n2, L2, x1, x2, x3, x4, x5, fun x hx hh => x6 x (hb x hx hh) hh⟩
theorem dir1 {B : Nat} {A : Ab} (w : Wf B [] A) {G m s t n a : Nat} {M S : Nat → Bool} {L : Nat → Nat} (hG : G < 4) (hm : m ≤ 6) (e1 : A.1 G = nI m) (hM : clo (nbr (sg A G m)) M) (hs : M s = false) {h0 h : dnH} (I : SpI A G m s M h0 h t S n L) (ht : t < n) (ea : L t = a) : StI A G m s M h0 t S n L (fun x => x + 1 = a ∧ a % 12 ≠ 0) (fX4_tryStep (some 274) (nI G) (nI a) (nI (a / 12)) (nI (a % 12) - 1) h) := by
  subst ea
  have a72 := (I.2.2.1.1 t ht).1
  by_cases q : L t % 12 = 0
  · have := try_n w hG hm e1 I ht (p := nI (L t / 12)) (i := nI (L t % 12) - 1) (.inr ⟨rfl, .inl (by rw [q]; rfl)⟩)
    exact sti_im this (fun x hx _ => hx.2 q)
  · have := try_y w hG hm e1 hM hs I ht (b := L t - 1) (by omega) (by unfold bsd; exact decide_eq_true (by omega))
    rw [show (L t - 1) / 12 = L t / 12 by omega, show (L t - 1) % 12 = L t % 12 - 1 by omega, ← nI_sub1 (show 1 ≤ L t % 12 by omega)] at this
    exact sti_im this (fun x hx _ => by show x = L t - 1; omega)
theorem dir2 {B : Nat} {A : Ab} (w : Wf B [] A) {G m s t n a : Nat} {M S : Nat → Bool} {L : Nat → Nat} (hG : G < 4) (hm : m ≤ 6) (e1 : A.1 G = nI m) (hM : clo (nbr (sg A G m)) M) (hs : M s = false) {h0 h : dnH} (I : SpI A G m s M h0 h t S n L) (ht : t < n) (ea : L t = a) : StI A G m s M h0 t S n L (fun x => a + 1 = x ∧ x % 12 ≠ 0) (fX4_tryStep (some 274) (nI G) (nI a) (nI (a / 12)) (nI (a % 12) + 1) h) := by
  subst ea
  have a72 := (I.2.2.1.1 t ht).1
  rw [nI_1]
  by_cases q : L t % 12 = 11
  · have := try_n w hG hm e1 I ht (p := nI (L t / 12)) (i := nI (L t % 12 + 1)) (.inr ⟨rfl, .inr (by rw [q]; rfl)⟩)
    exact sti_im this (fun x hx _ => by show False; omega)
  · have := try_y w hG hm e1 hM hs I ht (b := L t + 1) (by omega) (by unfold bsd; exact decide_eq_true (by omega))
    rw [show (L t + 1) / 12 = L t / 12 by omega, show (L t + 1) % 12 = L t % 12 + 1 by omega] at this
    exact sti_im this (fun x hx _ => by show x = L t + 1; omega)
theorem dir3 {B : Nat} {A : Ab} (w : Wf B [] A) {G m s t n a : Nat} {M S : Nat → Bool} {L : Nat → Nat} (hG : G < 4) (hm : m ≤ 6) (e1 : A.1 G = nI m) (hM : clo (nbr (sg A G m)) M) (hs : M s = false) {h0 h : dnH} (I : SpI A G m s M h0 h t S n L) (ht : t < n) (ea : L t = a) : StI A G m s M h0 t S n L (fun x => a = x + 12) (fX4_tryStep (some 274) (nI G) (nI a) (nI (a / 12) - 1) (nI (a % 12)) h) := by
  subst ea
  have a72 := (I.2.2.1.1 t ht).1
  by_cases q : L t < 12
  · have := try_n w hG hm e1 I ht (p := nI (L t / 12) - 1) (i := nI (L t % 12)) (.inl (by rw [show L t / 12 = 0 by omega]; rfl))
    exact sti_im this (fun x hx _ => by show False; omega)
  · have := try_y w hG hm e1 hM hs I ht (b := L t - 12) (by omega) (by unfold bsd; exact decide_eq_true (by omega))
    rw [show (L t - 12) / 12 = L t / 12 - 1 by omega, show (L t - 12) % 12 = L t % 12 by omega, ← nI_sub1 (show 1 ≤ L t / 12 by omega)] at this
    exact sti_im this (fun x hx _ => by show x = L t - 12; omega)
theorem dir4 {B : Nat} {A : Ab} (w : Wf B [] A) {G m s t n a : Nat} {M S : Nat → Bool} {L : Nat → Nat} (hG : G < 4) (hm : m ≤ 6) (e1 : A.1 G = nI m) (hM : clo (nbr (sg A G m)) M) (hs : M s = false) {h0 h : dnH} (I : SpI A G m s M h0 h t S n L) (ht : t < n) (ea : L t = a) : StI A G m s M h0 t S n L (fun x => x = a + 12) (fX4_tryStep (some 274) (nI G) (nI a) (nI (a / 12) + 1) (nI (a % 12)) h) := by
  subst ea
  have a72 := (I.2.2.1.1 t ht).1
  have := try_y w hG hm e1 hM hs I ht (b := L t + 12) (by omega) (by unfold bsd; exact decide_eq_true (by omega))
  rw [show (L t + 12) / 12 = L t / 12 + 1 by omega, show (L t + 12) % 12 = L t % 12 by omega, ← nI_1] at this
  exact this
theorem ln_279 {h : dnH} (hs : Sh h) : dnLn (some 279) 100 h = some (nI 72, h) := by simp only [dnLn, k_279 hs, Option.map_some]; rfl
theorem lst_0 : Lst (fun _ => false) 0 (fun _ => 0) := by
  refine ⟨fun i hi => (by omega), fun c hc => (by cases hc), fun F => ?_⟩
  have := cN_congr (F := fun c => (fun _ => false) c && F c) (G := fun _ => false) 72 (fun i _ => rfl)
  rw [this]
  exact (by decide : (0 : Nat) = cN (fun _ => false) 72)
def SpQ (A : Ab) (G m s : Nat) (M : Nat → Bool) (h0 h : dnH) (S : Nat → Bool) (n : Nat) (L : Nat → Nat) : Prop := CS h0 sp0 [] h A ∧ Sk h M S n L ∧ Lst S n L ∧ ∀ c, S c = true ↔ Cl (nbr (sg A G m)) s c
theorem spread_c {B : Nat} {A : Ab} (w : Wf B [] A) {G m s : Nat} {M : Nat → Bool} (hG : G < 4) (hm : m ≤ 6) (e1 : A.1 G = nI m) (hM : clo (nbr (sg A G m)) M) (hs : M s = false) (ho : (ceO (sg A G m) s).isSome = true) {h0 h : dnH} (c : CS h0 sp0 [] h A) (hk : ∀ c, c < 72 → h.2.1 280 c = if M c = true then 1 else 0) : ∃ h2 S n L, fX4_spread (some 274) (nI G) (nI (s / 12)) (nI (s % 12)) h = some ((), h2) ∧ SpQ A G m s M h0 h2 S n L := by
  have s72 := ce_lt hm ho
  have c1 : CS h0 sp0 [] (dnSI h 274 4 0) A := fr274 c (by omega)
  have k1 : Sk (dnSI h 274 4 0) M (fun _ => false) 0 (fun _ => 0) := by
    refine ⟨fun x hx => ?_, fun i hi => by omega, by simp [dnSI, dnSL, dnSD, dnUp]; rfl⟩
    have e : (dnSI h 274 4 0).2.1 280 x = h.2.1 280 x := by simp [dnSI, dnSL, dnSD, dnUp]
    rw [e, hk x hx, Bool.or_false]
  obtain ⟨h2, x1, x2, x3⟩ := reach_c c1 k1 s72 (by decide)
  have l2 := lst_up lst_0 s72 rfl
  have KK := it_inv (f := fX4_spread_b14 (some 274) (nI G)) (Q := fun _ k => ∃ S n L, SpQ A G m s M h0 k S n L) (fun t u k => u = nI t ∧ ∃ S n L, SpI A G m s M h0 k t S n L) 72 1000 0 (by omega) (by omega) ?_ ?_ (nI 0) h2 ⟨rfl, _, _, _, x2, x3, l2, fun y hy => ?_, upO_b, fun i hi => by omega, by omega⟩
  · obtain ⟨q, h3, b1, S, n, L, hq⟩ := KK
    rw [nI_0] at b1
    refine ⟨h3, S, n, L, ?_, hq⟩
    simp only [fX4_spread, dnB_eval, p_274_4 c.1, v_274 c1.1, x1, b1, dnP]
  · rintro t u k ht ⟨rfl, S, n, L, I⟩
    have ck := I.1
    have n4 := I.2.1.2.2
    have hc : ¬ (nI 72 ≤ nI t) := fun hc => by have := (nI_leI (a := 72) (b := t) (by omega) (by omega)).mp hc; omega
    have n72 : n ≤ 72 := by rw [lst_len I.2.2.1]; exact cN_le S 72
    by_cases q : n ≤ t
    · right
      have hc2 : nI n ≤ nI t := (nI_leI (by omega) (by omega)).mpr q
      have tn := I.2.2.2.2.2.2
      have tn : t = n := by omega
      refine ⟨(), k, ?_, S, n, L, ck, I.2.1, I.2.2.1, cl_clo I.2.2.2.2.1 (fun x y hx hxy => ?_) (fun x hx => (I.2.2.2.1 x hx).1)⟩
      · simp only [fX4_spread_b14, dnB_eval, g_274_3 ck.1, ln_279 ck.1, hc, if_false, g_274_4 ck.1, n4, hc2, if_true, dnP]
      · obtain ⟨i, hi, e⟩ := I.2.2.1.2.1 x hx
        exact I.2.2.2.2.2.1 i (by omega) y (by rw [e]; exact hxy)
    · left
      have hc2 : ¬ (nI n ≤ nI t) := fun hc => by have := (nI_leI (a := n) (b := t) (by omega) (by omega)).mp hc; omega
      have tn : t < n := by omega
      obtain ⟨a, ea⟩ : ∃ a, L t = a := ⟨_, rfl⟩
      have a72 : a < 72 := by rw [← ea]; exact (I.2.2.1.1 t tn).1
      have rd : ∀ {k' : dnH} {S' : Nat → Bool} {n' : Nat} {L' : Nat → Nat}, SpI A G m s M h0 k' t S' n' L' → t < n' → L' t = a → dnAI (some 279) 100 (nI t) k' = some (nI a, k') := fun {k' S' n' L'} I' hn' e' => by
        rw [a_279 I'.1.1, dnIn_nI ht (by decide), nI_clamp (by omega), I'.2.1.2.1 t hn', e']
        rfl
      have r0 := rd I tn ea
      obtain ⟨h1, S1, n1, L1, y1, I1, y3, y4, y5, y6⟩ := dir1 w hG hm e1 hM hs I tn ea
      have ea1 : L1 t = a := by rw [y4 t tn]; exact ea
      have r1 := rd I1 (by omega) ea1
      obtain ⟨h3, S3, n3, L3, z1, I3, z3, z4, z5, z6⟩ := dir2 w hG hm e1 hM hs I1 (by omega) ea1
      have ea3 : L3 t = a := by rw [z4 t (by omega)]; exact ea1
      have r3 := rd I3 (by omega) ea3
      obtain ⟨h4, S4, n4', L4, u1, I4, u3, u4, u5, u6⟩ := dir3 w hG hm e1 hM hs I3 (by omega) ea3
      have ea4 : L4 t = a := by rw [u4 t (by omega)]; exact ea3
      have r4 := rd I4 (by omega) ea4
      obtain ⟨h5, S5, n5, L5, v1, I5, v3, v4, v5, v6⟩ := dir4 w hG hm e1 hM hs I4 (by omega) ea4
      have ea5 : L5 t = a := by rw [v4 t (by omega)]; exact ea4
      rw [nI_1] at z1 v1
      refine ⟨nI (t + 1), h5, ?_, rfl, S5, n5, L5, I5.1, I5.2.1, I5.2.2.1, I5.2.2.2.1, I5.2.2.2.2.1, fun i hi b hb => ?_, by omega⟩
      · simp only [fX4_spread_b14, dnB_eval, g_274_3 ck.1, ln_279 ck.1, hc, if_false, g_274_4 ck.1, n4, hc2, r0, dnNz, n12, dv12 (show a < 100 by omega), md12 (show a < 100 by omega), v_274 ck.1, y1, g_274_3 I1.1.1, r1, v_274 I1.1.1, z1, g_274_3 I3.1.1, r3, v_274 I3.1.1, u1, g_274_3 I4.1.1, r4, v_274 I4.1.1, v1, dnP, nI_1]
      · by_cases q2 : i = t
        · subst q2
          have hb0 := hb
          rw [ea5] at hb
          have hbd : bsd a b = true := (Bool.and_eq_true_iff.mp hb).1
          have hbd := of_decide_eq_true hbd
          rcases hbd with hbd | hbd | hbd | hbd
          · exact v5 _ (u5 _ (z5 _ (y6 b hbd (by rw [ea]; exact hb))))
          · exact v5 _ (u5 _ (z6 b hbd (by rw [ea1]; exact hb)))
          · exact v6 b hbd (by rw [ea4]; exact hb)
          · exact v5 _ (u6 b hbd (by rw [ea3]; exact hb))
        · exact I5.2.2.2.2.2.1 i (by omega) b hb
  · rintro u k ⟨rfl, S, n, L, I⟩
    have ck := I.1
    have n72 : n ≤ 72 := by rw [lst_len I.2.2.1]; exact cN_le S 72
    have tn := I.2.2.2.2.2.2
    refine ⟨(), k, ?_, S, n, L, ck, I.2.1, I.2.2.1, cl_clo I.2.2.2.2.1 (fun x y hx hxy => ?_) (fun x hx => (I.2.2.2.1 x hx).1)⟩
    · simp only [fX4_spread_b14, dnB_eval, g_274_3 ck.1, ln_279 ck.1, Int32.le_refl, if_true, dnP]
    · obtain ⟨i, hi, e⟩ := I.2.2.1.2.1 x hx
      exact I.2.2.2.2.2.1 i (by omega) y (by rw [e]; exact hxy)
  · rcases upO_of hy with hy | hy
    · cases hy
    · rw [hy]
      exact ⟨cl_rf, ho⟩
