/-! ABS 6: row, thing, share, swap -/
theorem Wf.setH {B : Nat} {X : List Nat} {A : Ab} {G q m : Nat} {v : Int32} (w : Wf B X A) (hG : G < 4) (hm : m ≤ 6) (hq : q < m) (e : A.1 G = nI m) (hv : hOk v) (hl : ∀ n, n < 31 → v = nI n → live X A n) : Wf B X (setH A (6 * G + q) v) := by
  obtain ⟨w1, w2, w3, w4⟩ := w
  refine ⟨w1, fun k hk => ?_, fun g hg p hp hle => ?_, fun n hn hln => w4 n hn (live_setH (hl n hn) hln)⟩
  · show hOk (if k = 6 * G + q then v else A.2.1 k)
    split
    · exact hv
    · exact w2 k hk
  · show (if 6 * g + p = 6 * G + q then v else A.2.1 (6 * g + p)) = -14
    have hne : ¬ 6 * g + p = 6 * G + q := fun hc => by
      have e1 : g = G := by omega
      have e2 : p = q := by omega
      subst e1 e2
      have hle : A.1 g ≤ nI p := hle
      rw [e, nI_leI (by omega) (by omega)] at hle
      omega
    rw [if_neg hne]
    exact w3 g hg p hp hle
theorem Wf.setR {B : Nat} {X Y : List Nat} {A : Ab} {n : Nat} {R : Rw} (w : Wf B X A) (hY : ∀ m, m ∈ Y → m = n ∨ m ∈ X) (h : rwOk B R) : Wf B Y (setR A n R) := by
  obtain ⟨w1, w2, w3, w4⟩ := w
  refine ⟨w1, w2, w3, fun m hm hl => ?_⟩
  show rwOk B (if m = n then R else A.2.2.1 m)
  split
  · exact h
  · rename_i q
    refine w4 m hm ?_
    rcases hl with hl | hl
    · rcases hY m hl with hl | hl
      · exact absurd hl q
      · exact .inl hl
    · exact .inr hl
theorem place_A {h0 h : dnH} {S : Nat → Int32} {X : List Nat} {A : Ab} {G q x : Nat} (c : CS h0 S X h A) (hG : G < 4) (hq : q < 6) (hx : x < 31) (hl : live X A x) : fX9_place (some 1) (nI G) (nI q) (some (5 + 4 * x)) h = some ((), dnSI h 3 (6 * G + q) (nI x)) ∧ CS h0 S X (dnSI h 3 (6 * G + q) (nI x)) (setH A (6 * G + q) (nI x)) := by
  refine ⟨?_, c.place (by omega) (fun n hn e => ?_)⟩
  · have e1 := dnIn_nI (show 6 * G + q < 30 by omega) (by decide)
    have e2 : (nI (6 * G + q)).toNatClampNeg = 6 * G + q := nI_clamp (by omega)
    simp only [fX9_place, dnB_eval, sg_1 (st1 c.1), rg_i (row1 c.1 hx), c.2.2.1 x hx, at_c6, st_2 (st1 c.1), e1, e2, if_true, dnP]
  · rw [← (nI_eq (by omega) (by omega)).mp e]
    exact hl
theorem inB_lit {p : Int32} {n : Nat} (hn : n < 2 ^ 31) (h : inB p 0 (nI n) = true) : ∃ a : Nat, a ≤ n ∧ p = nI a := inB_of hn h
theorem neg_fault {f : Int32} (h : f < 0) : ¬ f = 0 ∧ ¬ 0 ≤ f := ⟨fun e => by rw [e] at h; exact absurd h (by decide), Int32.not_le.mpr h⟩
theorem subN {L : List Nat} : ∀ m, m ∈ ([] : List Nat) → m ∈ L := fun _ hm => by cases hm
theorem consY {X : List Nat} {n : Nat} : ∀ m, m ∈ n :: X → m = n ∨ m ∈ X := fun _ hm => List.mem_cons.mp hm

theorem step_row {B : Nat} (hB : 16 ≤ B) (g p kd n : Int32) : Step B B (fX9_newRow (some 1) g p kd n) (fX13_rowDeed (some 289) g p kd n) := by
  intro A w
  cases hg : inB g 0 3
  · exact step_ro (-1) w (fun h0 h c => by simp only [fX9_newRow, hg, dnB_eval, c_isGrid, c_isKind, c_isSort, c_isPlain, r_isGrid, r_isKind, r_isSort, r_isPlain, r_in, dnP, Bool.false_eq_true, if_false, if_true]) (fun q0 q r => by simp only [fX13_rowDeed, hg, dnB_eval, c_isGrid, c_isKind, c_isSort, c_isPlain, r_isGrid, r_isKind, r_isSort, r_isPlain, r_in, dnP, Bool.false_eq_true, if_false, if_true])
  cases hk : inB kd 0 11
  · exact step_ro (-1) w (fun h0 h c => by simp only [fX9_newRow, hg, hk, dnB_eval, c_isGrid, c_isKind, c_isSort, c_isPlain, r_isGrid, r_isKind, r_isSort, r_isPlain, r_in, dnP, Bool.false_eq_true, if_false, if_true]) (fun q0 q r => by simp only [fX13_rowDeed, hg, hk, dnB_eval, c_isGrid, c_isKind, c_isSort, c_isPlain, r_isGrid, r_isKind, r_isSort, r_isPlain, r_in, dnP, Bool.false_eq_true, if_false, if_true])
  by_cases hn : n ≤ 12
  · rcases lookP w g p with ⟨f, f0, -, f2, f3⟩ | ⟨G, q, m, hG, hq, hm, rfl, rfl, e1, -, ho, l1, l2⟩
    · obtain ⟨n1, n2⟩ := neg_fault f0
      exact step_ro f w (fun h0 h c => by simp only [fX9_newRow, hg, hk, hn, sv (st1 c.1), (f2 h0 _ _ h c).1, n2, dnB_eval, c_isGrid, c_isKind, c_isSort, c_isPlain, r_isGrid, r_isKind, r_isSort, r_isPlain, r_in, dnP, Bool.false_eq_true, if_false, if_true]) (fun q0 q r => by simp only [fX13_rowDeed, hg, hk, hn, v_289 r.1, (f3 hg q0 _ q r).1, n1, dnB_eval, c_isGrid, c_isKind, c_isSort, c_isPlain, r_isGrid, r_isKind, r_isSort, r_isPlain, r_in, dnP, Bool.false_eq_true, if_false, if_true])
    · by_cases h0 : 0 ≤ n
      · obtain ⟨k, hk12, rfl⟩ := inB_of (n := 11) (by decide) hk
        obtain ⟨l, hl31, rfl⟩ := nI_of (Int32.not_lt.mpr h0)
        have hl12 : l ≤ 12 := by
          have := (nI_leI (a := l) (b := 12) hl31 (by decide)).mp hn
          exact this
        obtain ⟨x, hx⟩ := exFr (X := []) A (by decide)
        have hlx : live [x] (setR A x (newR k l)) x := .inl (List.mem_singleton.mpr rfl)
        have z0 : (0 : Int32) ≤ 0 := by decide
        have w1 : Wf B [x] (setR A x (newR k l)) := w.setR consY (rwOk_new hB (by omega) hl12)
        have hv : ∀ n, n < 31 → nI x = nI n → live [x] (setR A x (newR k l)) n := fun n hn e => by
          rw [← (nI_eq (by have := hx.1; omega) (by omega)).mp e]
          exact hlx
        refine ⟨nI l, setH (setR A x (newR k l)) (6 * G + q) (nI x), (w1.setH hG hm hq e1 (.inr (.inr (.inr ⟨x, hx.1, rfl⟩))) hv).sub subN, fun h0' h c => ?_, fun q0 k0 r => ?_⟩
        · obtain ⟨h1, a1, c1⟩ := freshRow_A (kd := k) (ln := l) c spX_0 hx (by omega)
          obtain ⟨a2, c2⟩ := place_A (q := q) c1 hG (by omega) hx.1 hlx
          refine ⟨_, ?_, c2.sub subN⟩
          simp only [fX9_newRow, hg, hk, hn, h0, z0, sv (st1 c.1), (l1 h0' _ _ h c).1, a1, sv (st1 c1.1), a2, dnB_eval, c_isGrid, c_isKind, c_isSort, c_isPlain, r_isGrid, r_isKind, r_isSort, r_isPlain, r_in, dnP, Bool.false_eq_true, if_false, if_true]
        · obtain ⟨k1, a1, r1⟩ := newRow_A (kd := k) (ln := l) r w.2.1 hx (by omega)
          obtain ⟨a2, r2⟩ := holdsNow_A (v := nI x) (p := q) r1 hG (by omega) hv
          rw [rc_nI hx.1] at a2 r2
          refine ⟨_, _, ?_, r2⟩
          simp only [fX13_rowDeed, hg, hk, hn, h0, v_289 r.1, (l2 q0 _ k0 r).1, a1, v_289 r1.1, a2, dnB_eval, c_isGrid, c_isKind, c_isSort, c_isPlain, r_isGrid, r_isKind, r_isSort, r_isPlain, r_in, dnP, Bool.false_eq_true, if_false, if_true]
      · have z0 : (0 : Int32) ≤ 0 := by decide
        exact step_ro (-8) w (fun h0' h c => by simp only [fX9_newRow, hg, hk, hn, h0, z0, sv (st1 c.1), (l1 h0' _ _ h c).1, dnB_eval, c_isGrid, c_isKind, c_isSort, c_isPlain, r_isGrid, r_isKind, r_isSort, r_isPlain, r_in, dnP, Bool.false_eq_true, if_false, if_true]) (fun q0 q r => by simp only [fX13_rowDeed, hg, hk, hn, h0, v_289 r.1, (l2 q0 _ q r).1, dnB_eval, c_isGrid, c_isKind, c_isSort, c_isPlain, r_isGrid, r_isKind, r_isSort, r_isPlain, r_in, dnP, Bool.false_eq_true, if_false, if_true])
  · exact step_ro (-1) w (fun h0 h c => by simp only [fX9_newRow, hg, hk, hn, dnB_eval, c_isGrid, c_isKind, c_isSort, c_isPlain, r_isGrid, r_isKind, r_isSort, r_isPlain, r_in, dnP, Bool.false_eq_true, if_false, if_true]) (fun q0 q r => by simp only [fX13_rowDeed, hg, hk, hn, dnB_eval, c_isGrid, c_isKind, c_isSort, c_isPlain, r_isGrid, r_isKind, r_isSort, r_isPlain, r_in, dnP, Bool.false_eq_true, if_false, if_true])
theorem call_row {B : Nat} (hB : 16 ≤ B) (g p kd n : Int32) : Call B B (fX12_row (some 0) g p kd n) (fX13_row (some 289) g p kd n) :=
  callA (Nat.le_refl _) (fun h v h1 s1 s2 e => by simp only [fX12_row, dnB_eval, g_0_0 s1, sv (st1 s1), e, v_0 s2, tally_c s2, dnP]) (fun h v h1 s1 s2 e => by simp only [fX13_row, dnB_eval, v_289 s1, e, v_289 s2, said_r s2, dnP]) (step_row hB g p kd n)
