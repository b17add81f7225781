/-! ABS 5: a new row, in both -/
def isFr (X : List Nat) (A : Ab) (n : Nat) : Prop := n < 31 ∧ ¬ live X A n ∧ ∀ m, m < n → live X A m
theorem len_all : ∀ (N : Nat) (L : List Nat), (∀ n, n < N → n ∈ L) → N ≤ L.length := by
  intro N
  induction N with
  | zero => intro L _; exact Nat.zero_le _
  | succ N ih =>
    intro L h
    have h1 := ih (L.erase N) (fun n hn => (List.mem_erase_of_ne (by omega)).mpr (h n (by omega)))
    have h2 := List.length_erase_of_mem (h N (by omega))
    have h3 := List.length_pos_of_mem (h N (by omega))
    omega
theorem least_of {P : Nat → Prop} : ∀ n, P n → ∃ m, m ≤ n ∧ P m ∧ ∀ k, k < m → ¬ P k := by
  intro n
  induction n using Nat.strongRecOn with
  | ind n ih =>
    intro hp
    by_cases c : ∃ k, k < n ∧ P k
    · obtain ⟨k, hk, pk⟩ := c
      obtain ⟨m, h1, h2, h3⟩ := ih k hk pk
      exact ⟨m, by omega, h2, h3⟩
    · exact ⟨n, Nat.le_refl _, hp, fun k hk pk => c ⟨k, hk, pk⟩⟩
theorem exFr {X : List Nat} (A : Ab) (hX : X.length ≤ 6) : ∃ n, isFr X A n := by
  have h : ∃ n, n < 31 ∧ ¬ live X A n := by
    refine Classical.byContradiction (fun hc => ?_)
    have hall : ∀ n, n < 31 → n ∈ X ++ (List.range 24).map (fun k => (A.2.1 k).toNatClampNeg) := fun n hn => by
      have hl : live X A n := Classical.byContradiction (fun h => hc ⟨n, hn, h⟩)
      rcases hl with h | ⟨k, hk, e⟩
      · exact List.mem_append.mpr (.inl h)
      · exact List.mem_append.mpr (.inr (List.mem_map.mpr ⟨k, List.mem_range.mpr hk, by rw [e, nI_clamp (by omega)]⟩))
    have := len_all 31 _ hall
    rw [List.length_append, List.length_map, List.length_range] at this
    omega
  obtain ⟨n, hn, hp⟩ := h
  obtain ⟨m, h1, h2, h3⟩ := least_of (P := fun n => ¬ live X A n) n hp
  exact ⟨m, by omega, h2, fun k hk => Classical.byContradiction (h3 k hk)⟩
theorem holder_no {h : dnH} (hh : Sh h) {x : Int32} (hx : ∀ k, k < 30 → ¬ h.2.1 3 k = x) : fX9_firstHolder (some 1) x h = some (-9, h) := by
  have key : dnIt 1000 (fX9_firstHolder_b2 (some 1) x) (nI 0) h = some (.inl (), h) := by
    refine dnIt_run (f := fX9_firstHolder_b2 (some 1) x) (q := .inl ()) (hq := h) 30 1000 (fun i => (nI i, h)) (by decide) ?_ ?_
    · intro i hi
      have hc : ¬ ((30 : Int32) ≤ nI i) := fun hc => by have := (nI_leI (a := 30) (b := i) (by omega) (by omega)).mp hc; omega
      simp only [fX9_firstHolder_b2, dnB_eval, sg_1 (st1 hh), sl_2 (st1 hh), hc, if_false, sa_2 (st1 hh), dnIn_nI hi (by decide), if_true, nI_clamp (show i < 2 ^ 31 by omega)]
      rw [if_pos (show ¬ h.2.1 (1 + 2) i = x from hx i hi)]
      simp only [dnP, nI_1]
    · simp only [fX9_firstHolder_b2, dnB_eval, sg_1 (st1 hh), sl_2 (st1 hh), show (30 : Int32) ≤ nI 30 by decide, if_true, dnP]
  rw [nI_0] at key
  simp only [fX9_firstHolder, dnB_eval, key, Sum.elim_inl, dnP]
theorem holder_at {h : dnH} (hh : Sh h) {x : Int32} {k : Nat} (hk : k < 30) (hx : h.2.1 3 k = x) (hb : ∀ j, j < k → ¬ h.2.1 3 j = x) : fX9_firstHolder (some 1) x h = some (nI k, h) := by
  have key : dnIt 1000 (fX9_firstHolder_b2 (some 1) x) (nI 0) h = some (.inr (nI k), h) := by
    refine dnIt_run (f := fX9_firstHolder_b2 (some 1) x) (q := .inr (nI k)) (hq := h) k 1000 (fun i => (nI i, h)) (by omega) ?_ ?_
    · intro i hi
      have hc : ¬ ((30 : Int32) ≤ nI i) := fun hc => by have := (nI_leI (a := 30) (b := i) (by omega) (by omega)).mp hc; omega
      simp only [fX9_firstHolder_b2, dnB_eval, sg_1 (st1 hh), sl_2 (st1 hh), hc, if_false, sa_2 (st1 hh), dnIn_nI (show i < 30 by omega) (by decide), if_true, nI_clamp (show i < 2 ^ 31 by omega)]
      rw [if_pos (show ¬ h.2.1 (1 + 2) i = x from hb i hi)]
      simp only [dnP, nI_1]
    · have hc : ¬ ((30 : Int32) ≤ nI k) := fun hc => by have := (nI_leI (a := 30) (b := k) (by omega) (by omega)).mp hc; omega
      simp only [fX9_firstHolder_b2, dnB_eval, sg_1 (st1 hh), sl_2 (st1 hh), hc, if_false, sa_2 (st1 hh), dnIn_nI hk (by decide), if_true, nI_clamp (show k < 2 ^ 31 by omega)]
      rw [if_neg (show ¬ ¬ h.2.1 (1 + 2) k = x from not_not_intro hx)]
      rfl
  rw [nI_0] at key
  simp only [fX9_firstHolder, dnB_eval, key, Sum.elim_inr, dnP]
def spX (S : Nat → Int32) (X : List Nat) : Prop := ∀ n, n < 31 → (n ∈ X ↔ ∃ p, p < 6 ∧ S p = nI n)
theorem spX_0 : spX sp0 [] := by
  intro n hn
  refine ⟨fun h => (by cases h), fun h => ?_⟩
  obtain ⟨p, hp, e⟩ := h
  have e : (-14 : Int32) = nI n := e
  exact absurd (show nI n < 0 by rw [← e]; decide) (nI_pos (by omega))
theorem CS.live_iff {h0 h : dnH} {S : Nat → Int32} {X : List Nat} {A : Ab} (c : CS h0 S X h A) (hX : spX S X) {n : Nat} (hn : n < 31) : live X A n ↔ ∃ k, k < 30 ∧ h.2.1 3 k = nI n := by
  refine ⟨fun hl => ?_, fun ⟨k, hk, e⟩ => ?_⟩
  · rcases hl with hl | ⟨k, hk, e⟩
    · obtain ⟨p, hp, e⟩ := (hX n hn).mp hl
      exact ⟨24 + p, by omega, (c.2.2.2.1 p hp).trans e⟩
    · exact ⟨k, by omega, (c.hd hk).trans e⟩
  · by_cases q : k < 24
    · exact .inr ⟨k, q, (c.hd q).symm.trans e⟩
    · have := c.2.2.2.1 (k - 24) (by omega)
      rw [show 24 + (k - 24) = k by omega, e] at this
      exact .inl ((hX n hn).mpr ⟨k - 24, by omega, this.symm⟩)
theorem freshRow_A {h0 h : dnH} {S : Nat → Int32} {X : List Nat} {A : Ab} {n kd ln : Nat} (c : CS h0 S X h A) (hX : spX S X) (hf : isFr X A n) (hkd : kd < 12) : ∃ h2, fX9_freshRow (some 1) (nI kd) (nI ln) h = some (some (5 + 4 * n), h2) ∧ CS h0 S (n :: X) h2 (setR A n (newR kd ln)) := by
  obtain ⟨hn, hnl, hlo⟩ := hf
  have hh := c.1
  have key : dnIt 1000 (fX9_freshRow_b2 (some 1) (nI kd) (nI ln)) (nI 0) h = some (nI n, h) := by
    refine dnIt_run (f := fX9_freshRow_b2 (some 1) (nI kd) (nI ln)) (q := nI n) (hq := h) n 1000 (fun i => (nI i, h)) (by omega) ?_ ?_
    · intro i hi
      have hc : ¬ ((30 : Int32) ≤ nI i) := fun hc => by have := (nI_leI (a := 30) (b := i) (by omega) (by omega)).mp hc; omega
      obtain ⟨k, hk, ek⟩ := (c.live_iff hX (show i < 31 by omega)).mp (hlo i hi)
      obtain ⟨j, j1, j2, j3⟩ := least_of (P := fun k => h.2.1 3 k = nI i) k ek
      have h9 : ¬ nI j = (-9 : Int32) := fun e => absurd (show nI j < 0 by rw [e]; decide) (nI_pos (by omega))
      simp only [fX9_freshRow_b2, hc, if_false, dnB_eval, sv (st1 hh), holder_at hh (show j < 30 by omega) j2 j3, h9, dnP, nI_1]
    · by_cases c30 : n = 30
      · subst c30
        simp only [fX9_freshRow_b2, show (30 : Int32) ≤ nI 30 by decide, if_true, dnP]
      · have hc : ¬ ((30 : Int32) ≤ nI n) := fun hc => by have := (nI_leI (a := 30) (b := n) (by omega) (by omega)).mp hc; omega
        have hno : ∀ k, k < 30 → ¬ h.2.1 3 k = nI n := fun k hk e => hnl ((c.live_iff hX hn).mpr ⟨k, hk, e⟩)
        simp only [fX9_freshRow_b2, hc, if_false, dnB_eval, sv (st1 hh), holder_no hh hno, if_true, dnP]
  rw [nI_0] at key
  obtain ⟨h2, e1, e2, e3⟩ := begin_A (n := ln) (row1 hh hn) hkd
  have c2 : CS h0 S (n :: X) h2 (setR A n (newR kd ln)) := c.setRow hn (fun m hm => by
    rcases List.mem_cons.mp hm with hm | hm
    · exact .inl hm
    · exact .inr hm) e2 e3
  refine ⟨h2, ?_, c2⟩
  have g2 := sg_2 (st1 hh)
  have g3 := sg_2 (st1 c2.1)
  simp only [fX9_freshRow, fX9_freshRow_j24, dnB_eval, key, g2, g3, sa_3 (st1 hh) hn, sa_3 (st1 c2.1) hn, show 1 + 4 + 4 * n = 5 + 4 * n by omega, rv (row1 hh hn), e1, dnP]
theorem isHeld_A {h0 h : dnH} {X : List Nat} {A : Ab} (c : RS h0 X h A) (ho : ∀ k, k < 24 → hOk (A.2.1 k)) {n : Nat} (hn : n < 31) : ∃ b, fX13_isHeld (some 289) (nI n) h = some (b, h) ∧ (b = true ↔ live X A n) := by
  have hh := c.1
  have hrc : ∀ k, k < 24 → (h.2.1 292 k = nI n ↔ A.2.1 k = nI n) := fun k hk => by
    rw [c.hd hk]
    rcases ho k hk with e | e | e | ⟨r, hr, e⟩
    · rw [e]
      exact ⟨fun hc => absurd (show nI n < 0 by rw [← hc]; decide) (nI_pos (by omega)), fun hc => absurd (show nI n < 0 by rw [← hc]; decide) (nI_pos (by omega))⟩
    · rw [e]
      exact ⟨fun hc => absurd (show nI n < 0 by rw [← hc]; decide) (nI_pos (by omega)), fun hc => absurd (show nI n < 0 by rw [← hc]; decide) (nI_pos (by omega))⟩
    · rw [e]
      exact ⟨fun hc => absurd (show nI n < 0 by rw [← hc]; decide) (nI_pos (by omega)), fun hc => absurd (show nI n < 0 by rw [← hc]; decide) (nI_pos (by omega))⟩
    · rw [e, rc_nI hr]
  have hfr : h.2.1 295 n = 1 ↔ n ∈ X := by
    rw [c.2.2.1 n (by omega)]
    by_cases q : n ∈ X
    · simp [q]
    · simp [q]
  have loop : ∀ b0 : Bool, (b0 = true ↔ n ∈ X) → ∃ b, fX13_isHeld_j15 (some 289) (nI n) b0 h = some (b, h) ∧ (b = true ↔ live X A n) := fun b0 hb0 => by
    have KK := it_inv (f := fX13_isHeld_b18 (some 289) (nI n)) (Q := fun b k => k = h ∧ (b = true ↔ live X A n)) (fun i s k => k = h ∧ s.2 = nI i ∧ (s.1 = true ↔ (n ∈ X ∨ ∃ k, k < i ∧ A.2.1 k = nI n))) 24 1000 0 (by decide) (by decide) ?_ ?_ (b0, nI 0) h ⟨rfl, rfl, ?_⟩
    · obtain ⟨q, h2, e, e2, e3⟩ := KK
      subst e2
      rw [nI_0] at e
      exact ⟨q, by simp only [fX13_isHeld_j15, dnB_eval, e, dnP], e3⟩
    · rintro i ⟨b, x⟩ k hi ⟨rfl, hx, hb⟩
      dsimp only at hx hb
      subst hx
      left
      have hc : ¬ ((24 : Int32) ≤ nI i) := fun hc => by have := (nI_leI (a := 24) (b := i) (by omega) (by omega)).mp hc; omega
      by_cases cb : b = true
      · refine ⟨(true, nI (i + 1)), k, ?_, rfl, rfl, ⟨fun _ => ?_, fun _ => rfl⟩⟩
        · simp only [fX13_isHeld_b18, hc, if_false, cb, if_true, fX13_isHeld_j38, fX13_isHeld_j43, dnP, nI_1]
        · rcases hb.mp cb with q | ⟨j, hj, e⟩
          · exact .inl q
          · exact .inr ⟨j, by omega, e⟩
      · have cb' : ¬ (n ∈ X ∨ ∃ k, k < i ∧ A.2.1 k = nI n) := fun q => cb (hb.mpr q)
        by_cases ce : k.2.1 292 i = nI n
        · refine ⟨(true, nI (i + 1)), k, ?_, rfl, rfl, ⟨fun _ => .inr ⟨i, by omega, (hrc i hi).mp ce⟩, fun _ => rfl⟩⟩
          simp only [fX13_isHeld_b18, hc, if_false, cb, Bool.false_eq_true, dnB_eval, g_289_5 hh, a_292 hh, dnIn_nI hi (by decide), if_true, nI_clamp (show i < 2 ^ 31 by omega), ce, not_true_eq_false, fX13_isHeld_j38, fX13_isHeld_j43, dnP, nI_1]
        · refine ⟨(false, nI (i + 1)), k, ?_, rfl, rfl, ⟨fun q => (by cases q), fun q => ?_⟩⟩
          · simp only [fX13_isHeld_b18, hc, if_false, cb, Bool.false_eq_true, dnB_eval, g_289_5 hh, a_292 hh, dnIn_nI hi (by decide), if_true, nI_clamp (show i < 2 ^ 31 by omega), ce, not_false_eq_true, fX13_isHeld_j43, dnP, nI_1]
          · exfalso
            rcases q with q | ⟨j, hj, e⟩
            · exact cb' (.inl q)
            · by_cases cj : j = i
              · subst cj
                exact ce ((hrc j hi).mpr e)
              · exact cb' (.inr ⟨j, by omega, e⟩)
    · rintro ⟨b, x⟩ k ⟨rfl, hx, hb⟩
      dsimp only at hx hb
      subst hx
      exact ⟨b, k, by simp only [fX13_isHeld_b18, show (24 : Int32) ≤ nI 24 by decide, if_true, dnP], rfl, hb⟩
    · rw [hb0]
      exact ⟨.inl, fun q => q.elim id (fun ⟨j, hj, _⟩ => by omega)⟩
  by_cases q : n ∈ X
  · obtain ⟨b, e, hb⟩ := loop true ⟨fun _ => q, fun _ => rfl⟩
    exact ⟨b, by simp only [fX13_isHeld, dnB_eval, g_289_8 hh, a_295 hh, dnIn_nI (show n < 32 by omega) (by decide), if_true, nI_clamp (show n < 2 ^ 31 by omega), hfr.mpr q, not_true_eq_false, if_false, e], hb⟩
  · obtain ⟨b, e, hb⟩ := loop false ⟨fun hc => (by cases hc), fun hc => absurd hc q⟩
    have hq : ¬ h.2.1 295 n = 1 := fun e => q (hfr.mp e)
    exact ⟨b, by simp only [fX13_isHeld, dnB_eval, g_289_8 hh, a_295 hh, dnIn_nI (show n < 32 by omega) (by decide), if_true, nI_clamp (show n < 2 ^ 31 by omega), hq, not_false_eq_true, e], hb⟩
theorem RS.setRow {h0 h h2 : dnH} {X Y : List Nat} {A : Ab} {n : Nat} {R : Rw} (c : RS h0 X h A) (e : Eqc (fun x => x < 293 ∨ 299 ≤ x) h h2) (hf : ∀ r, r < 32 → h2.2.1 295 r = if r ∈ Y then 1 else 0) (hY : ∀ m, m ∈ Y → m = n ∨ m ∈ X) (ho : ∀ m, m ≠ n → h2.2.1 293 m = h.2.1 293 m ∧ h2.2.1 294 m = h.2.1 294 m) (hc : ∀ x, (x < 12 * n ∨ 12 * n + 12 ≤ x) → h2.2.1 296 x = h.2.1 296 x ∧ h2.2.2.1 297 x = h.2.2.1 297 x ∧ h2.2.2.2.1 298 x = h.2.2.2.1 298 x) (w : RwR h2 n R) : RS h0 Y h2 (setR A n R) := by
  obtain ⟨c1, c2, c3, c4, c5, c6, c7⟩ := c
  have e9 := e.2.2 289 (by decide)
  refine ⟨e.sh c1, c2.tr (e.im (fun x hx => by unfold Pr at hx; omega)), hf, ⟨fun g hg => ?_, fun k hk => ?_, fun m hm hl => ?_⟩, ?_, ?_, ?_⟩
  · show h2.2.1 291 g = _
    rw [(e.2.2 291 (by decide)).1]; exact c4.1 g hg
  · show h2.2.1 292 k = _
    rw [(e.2.2 292 (by decide)).1]; exact c4.2.1 k hk
  · by_cases q : m = n
    · subst q
      have : (setR A m R).2.2.1 m = R := if_pos rfl
      rw [this]
      exact w
    · have eR : (setR A n R).2.2.1 m = A.2.2.1 m := if_neg q
      rw [eR]
      have hl2 : live X A m := by
        rcases hl with hl | hl
        · rcases hY m hl with hl | hl
          · exact absurd hl q
          · exact .inl hl
        · exact .inr hl
      obtain ⟨a1, a2, a3⟩ := c4.2.2 m hm hl2
      refine ⟨(ho m q).1.trans a1, (ho m q).2.trans a2, fun i hi => ?_⟩
      obtain ⟨b1, b2, b3⟩ := hc (12 * m + i) (by omega)
      exact ⟨b1.trans (a3 i hi).1, b2.trans (a3 i hi).2.1, b3.trans (a3 i hi).2.2⟩
  · rw [e9.1, e9.2.1]; exact c5
  · rw [e9.1]; exact c6
  · rw [e9.1]; exact c7
theorem newRow_A {h0 h : dnH} {X : List Nat} {A : Ab} {n kd ln : Nat} (c : RS h0 X h A) (ho : ∀ k, k < 24 → hOk (A.2.1 k)) (hf : isFr X A n) (hkd : kd < 12) : ∃ h2, fX13_newRow (some 289) (nI kd) (nI ln) h = some (nI n, h2) ∧ RS h0 (n :: X) h2 (setR A n (newR kd ln)) := by
  obtain ⟨hn, hnl, hlo⟩ := hf
  have hh := c.1
  have h8 : (8 ≤ nI kd) ↔ ¬ kd < 8 := (by decide +kernel : ∀ s, s < 12 → ((8 ≤ nI s) ↔ ¬ s < 8)) kd hkd
  have key : dnIt 1000 (fX13_newRow_b2 (some 289) (nI kd) (nI ln)) (nI 0) h = some (nI n, h) := by
    refine dnIt_run (f := fX13_newRow_b2 (some 289) (nI kd) (nI ln)) (q := nI n) (hq := h) n 1000 (fun i => (nI i, h)) (by omega) ?_ ?_
    · intro i hi
      have hc : ¬ ((31 : Int32) ≤ nI i) := fun hc => by have := (nI_leI (a := 31) (b := i) (by omega) (by omega)).mp hc; omega
      obtain ⟨b, e, hb⟩ := isHeld_A c ho (show i < 31 by omega)
      simp only [fX13_newRow_b2, hc, if_false, dnB_eval, v_289 hh, e, hb.mpr (hlo i hi), if_true, dnP, nI_1]
    · have hc : ¬ ((31 : Int32) ≤ nI n) := fun hc => by have := (nI_leI (a := 31) (b := n) (by omega) (by omega)).mp hc; omega
      obtain ⟨b, e, hb⟩ := isHeld_A c ho hn
      have hbf : b = false := by
        cases b
        · rfl
        · exact absurd (hb.mp rfl) hnl
      simp only [fX13_newRow_b2, hc, if_false, dnB_eval, v_289 hh, e, hbf, Bool.false_eq_true, if_false, dnP]
  rw [nI_0] at key
  have q0 : Sh (dnSI h 295 n 1) := hh
  have q1 : Sh (dnSI (dnSI h 295 n 1) 293 n (nI kd)) := hh
  have q2 : Sh (dnSI (dnSI (dnSI h 295 n 1) 293 n (nI kd)) 294 n (nI ln)) := hh
  have KK := it_inv (f := fX13_newRow_b46 (some 289) (nI kd) (nI n)) (Q := fun _ k => Eqc (fun x => x < 296 ∨ 299 ≤ x) (dnSI (dnSI (dnSI h 295 n 1) 293 n (nI kd)) 294 n (nI ln)) k ∧ (∀ x, (x < 12 * n ∨ 12 * n + 12 ≤ x) → k.2.1 296 x = h.2.1 296 x ∧ k.2.2.1 297 x = h.2.2.1 297 x ∧ k.2.2.2.1 298 x = h.2.2.2.1 298 x) ∧ ∀ j, j < 12 → k.2.1 296 (12 * n + j) = nI (newC kd).1 ∧ k.2.2.1 297 (12 * n + j) = 0 ∧ k.2.2.2.1 298 (12 * n + j) = FP.dconst0) (fun i s k => s = nI i ∧ Eqc (fun x => x < 296 ∨ 299 ≤ x) (dnSI (dnSI (dnSI h 295 n 1) 293 n (nI kd)) 294 n (nI ln)) k ∧ (∀ x, (x < 12 * n ∨ 12 * n + 12 ≤ x) → k.2.1 296 x = h.2.1 296 x ∧ k.2.2.1 297 x = h.2.2.1 297 x ∧ k.2.2.2.1 298 x = h.2.2.2.1 298 x) ∧ ∀ j, j < i → k.2.1 296 (12 * n + j) = nI (newC kd).1 ∧ k.2.2.1 297 (12 * n + j) = 0 ∧ k.2.2.2.1 298 (12 * n + j) = FP.dconst0) 12 1000 0 (by decide) (by decide) ?_ ?_ (nI 0) (dnSI (dnSI (dnSI h 295 n 1) 293 n (nI kd)) 294 n (nI ln)) ⟨rfl, Eqc.rf, fun x hx => ⟨?_, rfl, rfl⟩, fun j hj => by omega⟩
  · obtain ⟨_, h2, e, f1, f2, f3⟩ := KK
    rw [nI_0] at e
    have a1 := f1.2.2 293 (by decide)
    have a2 := f1.2.2 294 (by decide)
    have a3 := f1.2.2 295 (by decide)
    refine ⟨h2, ?_, ?_⟩
    · have i1 := dnIn_nI (show n < 32 by omega) (by decide)
      have i2 : (nI n).toNatClampNeg = n := nI_clamp (by omega)
      simp only [fX13_newRow, fX13_newRow_j22, dnB_eval, key, g_289_8 hh, t_295 hh, i1, i2, if_true, g_289_6 q0, t_293 q0, g_289_7 q1, t_294 q1, e, dnP]
    · refine c.setRow ?_ ?_ ?_ ?_ f2 ⟨?_, ?_, fun j hj => f3 j hj⟩
      · exact (((eqc_SI (by omega)).tr (eqc_SI (by omega))).tr (eqc_SI (by omega))).tr (f1.im (fun x hx => by omega))
      · intro r hr
        rw [a3.1]
        have e0 := c.2.2.1 r hr
        by_cases q : r = n
        · subst q
          simp [dnSI, dnUp]
        · simp [dnSI, dnUp, q, e0]
      · intro m hm
        rcases List.mem_cons.mp hm with hm | hm
        · exact .inl hm
        · exact .inr hm
      · intro m hm
        rw [a1.1, a2.1]
        simp [dnSI, dnUp, hm]
      · rw [a1.1]
        simp [dnSI, dnUp, newR]
      · rw [a2.1]
        simp [dnSI, dnUp, newR]
  · rintro i s k hi ⟨rfl, k1, k2, k3⟩
    left
    have hk : Sh k := k1.sh q2
    have hc : ¬ ((12 : Int32) ≤ nI i) := fun hc => by have := (nI_leI (a := 12) (b := i) (by omega) (by omega)).mp hc; omega
    have i1 := dnIn_nI (show 12 * n + i < 384 by omega) (by decide)
    have i2 : (nI (12 * n + i)).toNatClampNeg = 12 * n + i := nI_clamp (by omega)
    have j76 : ∀ v : Int32, fX13_newRow_j76 (some 289) (nI kd) (nI n) (nI i) (some 296) (nI (12 * n + i)) v k = some (.inl (nI (i + 1)), wrR k (12 * n + i) v 0 FP.dconst0) := fun v => by
      have r1 : Sh (dnSI k 296 (12 * n + i) v) := hk
      have r2 : Sh (dnSL (dnSI k 296 (12 * n + i) v) 297 (12 * n + i) 0) := hk
      simp only [fX13_newRow_j76, dnB_eval, t_296 hk, i1, i2, if_true, g_289_10 r1, at_r, t_297 r1, g_289_11 r2, t_298 r2, dnP, nI_1]
      rfl
    refine ⟨nI (i + 1), wrR k (12 * n + i) (nI (newC kd).1) 0 FP.dconst0, ?_, rfl, k1.tr (eqc_wrR (by decide) (by decide) (by decide)), fun x hx => ?_, fun j hj => ?_⟩
    · simp only [fX13_newRow_b46, hc, if_false, dnB_eval, g_289_9 hk, h8, at_r, j76]
      unfold newC
      by_cases q : kd < 8
      · rw [if_neg (not_not_intro q), if_pos q]
        exact j76 _
      · rw [if_pos q, if_neg q]
        exact j76 _
    · obtain ⟨b1, b2, b3⟩ := k2 x hx
      have q : ¬ x = 12 * n + i := by omega
      simp [wrR, dnSI, dnSL, dnSD, dnUp, q, b1, b2, b3]
    · by_cases q : j = i
      · subst q
        simp [wrR, dnSI, dnSL, dnSD, dnUp]
      · obtain ⟨b1, b2, b3⟩ := k3 j (by omega)
        simp [wrR, dnSI, dnSL, dnSD, dnUp, q, b1, b2, b3]
  · rintro s k ⟨rfl, k1, k2, k3⟩
    exact ⟨(), k, by simp only [fX13_newRow_b46, show (12 : Int32) ≤ nI 12 by decide, if_true, dnP], k1, k2, k3⟩
  · simp [dnSI, dnUp]
