/-! ABS 9: cells asked for; put, write -/
theorem rw260 {h : dnH} (hh : Sh h) : RowAt h 260 := hh.2.2.2.2.1
theorem rw264 {h : dnH} (hh : Sh h) : RowAt h 264 := hh.2.2.2.2.2.1
theorem rw275 {h : dnH} (hh : Sh h) : RowAt h 275 := hh.2.2.2.2.2.2
theorem inB_len {n : Nat} (hn : n ≤ 72) (i : Int32) : inB i 0 (nI n - 1) = decide (0 ≤ i.toInt ∧ i.toInt < n) := by
  have e : (nI n - 1).toInt = (n : Int) - 1 := by
    rw [Int32.toInt_sub, nI_toInt (by omega)]
    have : (1 : Int32).toInt = 1 := rfl
    rw [this]
    exact Int.bmod_eq_of_le (by omega) (by omega)
  unfold inB
  have h0 : (0 : Int32).toInt = 0 := rfl
  simp only [Int32.le_iff_toInt_le, e, h0]
  rw [Bool.eq_iff_iff]
  simp only [decide_eq_true_eq]
  omega
theorem idx_of {n : Nat} {i : Int32} (h : 0 ≤ i.toInt ∧ i.toInt < n) (hn : n ≤ 72) : ∃ I, I < n ∧ i = nI I := by
  refine ⟨i.toInt.toNat, by omega, Int32.toInt_inj.mp ?_⟩
  rw [nI_toInt (by omega)]
  omega
theorem len_A {h0 h : dnH} {X : List Nat} {A : Ab} {r : Nat} (c : RS h0 X h A) (hr : r < 31) (hl : live X A r) : dnAI (some 294) 100 (nI r) h = some (nI (A.2.2.1 r).2.1, h) := by
  rw [a_294 c.1, dnIn_nI (show r < 32 by omega) (by decide), nI_clamp (show r < 2 ^ 31 by omega), (c.row hr hl).2.1]
  rfl
theorem kind_A {h0 h : dnH} {X : List Nat} {A : Ab} {r : Nat} (c : RS h0 X h A) (hr : r < 31) (hl : live X A r) : dnAI (some 293) 100 (nI r) h = some (nI (A.2.2.1 r).1, h) := by
  rw [a_293 c.1, dnIn_nI (show r < 32 by omega) (by decide), nI_clamp (show r < 2 ^ 31 by omega), (c.row hr hl).1]
  rfl
theorem srt_A {h0 h : dnH} {X : List Nat} {A : Ab} {r i : Nat} (c : RS h0 X h A) (hr : r < 31) (hl : live X A r) (hi : i < 12) : dnAI (some 296) 100 (nI (12 * r + i)) h = some (nI ((A.2.2.1 r).2.2 i).1, h) := by
  rw [a_296 c.1, dnIn_nI (show 12 * r + i < 384 by omega) (by decide), nI_clamp (show 12 * r + i < 2 ^ 31 by omega), ((c.row hr hl).2.2 i hi).1]
  rfl
theorem num_A {h0 h : dnH} {X : List Nat} {A : Ab} {r i : Nat} (c : RS h0 X h A) (hr : r < 31) (hl : live X A r) (hi : i < 12) : dnAL (some 297) 102 (nI (12 * r + i)) h = some (((A.2.2.1 r).2.2 i).2.1, h) := by
  rw [a_297 c.1, dnIn_nI (show 12 * r + i < 384 by omega) (by decide), nI_clamp (show 12 * r + i < 2 ^ 31 by omega), ((c.row hr hl).2.2 i hi).2.1]
  rfl
theorem rea_A {h0 h : dnH} {X : List Nat} {A : Ab} {r i : Nat} (c : RS h0 X h A) (hr : r < 31) (hl : live X A r) (hi : i < 12) : dnAD (some 298) 103 (nI (12 * r + i)) h = some (((A.2.2.1 r).2.2 i).2.2, h) := by
  rw [a_298 c.1, dnIn_nI (show 12 * r + i < 384 by omega) (by decide), nI_clamp (show 12 * r + i < 2 ^ 31 by omega), ((c.row hr hl).2.2 i hi).2.2]
  rfl
theorem lookC {B : Nat} {X : List Nat} {A : Ab} (w : Wf B X A) (g p i : Int32) :
    (∃ f : Int32, f < 0 ∧ (inB g 0 3 = false → f = -1) ∧ (∀ h0 S Y h, CS h0 S Y h A → fX9_rowAt (some 1) g p h = some (none, h) ∧ fX9_rowFault (some 1) g p h = some (f, h)) ∧ (inB g 0 3 = true → ∀ q0 Y q, RS q0 Y q A → fX13_cellFault (some 289) g p i q = some (f, q))) ∨
    (∃ G q m r : Nat, G < 4 ∧ q < m ∧ m ≤ 6 ∧ r < 31 ∧ g = nI G ∧ p = nI q ∧ A.1 G = nI m ∧ A.2.1 (6 * G + q) = nI r ∧ inB g 0 3 = true ∧ (∀ Y, live Y A r) ∧ rwOk B (A.2.2.1 r) ∧ (∀ h0 S Y h, CS h0 S Y h A → fX9_rowAt (some 1) g p h = some (some (5 + 4 * r), h)) ∧ (∀ q0 Y k, RS q0 Y k A → fX13_rowFault (some 289) g p k = some (0, k) ∧ fX13_held (some 289) g p k = some (nI r, k)) ∧
      (((∀ h0 S Y h, CS h0 S Y h A → fX5_hasCell (some (5 + 4 * r)) i h = some (false, h)) ∧ ∀ q0 Y q, RS q0 Y q A → fX13_cellFault (some 289) g p i q = some (-6, q)) ∨
       (∃ I : Nat, I < (A.2.2.1 r).2.1 ∧ i = nI I ∧ (∀ h0 S Y h, CS h0 S Y h A → fX5_hasCell (some (5 + 4 * r)) i h = some (true, h)) ∧ ∀ q0 Y q, RS q0 Y q A → fX13_cellFault (some 289) g p i q = some (0, q)))) := by
  rcases lookR w g p with ⟨f, f0, f1, f2, f3⟩ | ⟨G, q, m, r, hG, hq, hm, hr, rfl, rfl, e1, e2, hb, -, hl0, hrw, l1, l2⟩
  · obtain ⟨n1, n2⟩ := neg_fault f0
    exact .inl ⟨f, f0, f1, f2, fun hb q0 Y q r => (by simp only [fX13_cellFault, v_289 r.1, f3 hb q0 Y q r, n1, dnB_eval, c_isGrid, c_isKind, c_isSort, c_isPlain, r_isGrid, r_isKind, r_isSort, r_isPlain, r_in, dnP, Bool.false_eq_true, if_false, if_true])⟩
  · have hl : ∀ Y, live Y A r := fun Y => live_mono (by intro _ hm; cases hm) hl0
    refine .inr ⟨G, q, m, r, hG, hq, hm, hr, rfl, rfl, e1, e2, hb, hl, hrw, l1, l2, ?_⟩
    have hc : ∀ h0 S Y h, CS h0 S Y h A → fX5_hasCell (some (5 + 4 * r)) i h = some (decide (0 ≤ i.toInt ∧ i.toInt < ((A.2.2.1 r).2.1 : Int)), h) := fun h0 S Y h c => hasCell_c (row1 c.1 hr) (c.row hr (hl Y)).2.1 hrw.2.1 i
    have hd : ∀ q0 Y k, RS q0 Y k A → fX13_cellFault (some 289) (nI G) (nI q) i k = some (if (0 ≤ i.toInt ∧ i.toInt < ((A.2.2.1 r).2.1 : Int)) then 0 else -6, k) := fun q0 Y k r' => by
      have hn := hrw.2.1
      simp only [fX13_cellFault, v_289 r'.1, (l2 q0 Y k r').1, (l2 q0 Y k r').2, g_289_7 r'.1, len_A r' hr (hl Y), inB_len (show (A.2.2.1 r).2.1 ≤ 72 by omega), dnB_eval, c_isGrid, c_isKind, c_isSort, c_isPlain, r_isGrid, r_isKind, r_isSort, r_isPlain, r_in, dnP, Bool.false_eq_true, if_false, if_true]
      by_cases q : (0 ≤ i.toInt ∧ i.toInt < ((A.2.2.1 r).2.1 : Int))
      · rw [if_pos q, decide_eq_true q]; rfl
      · rw [if_neg q, decide_eq_false q]; rfl
    by_cases q : (0 ≤ i.toInt ∧ i.toInt < ((A.2.2.1 r).2.1 : Int))
    · right
      have hn := hrw.2.1
      obtain ⟨I, hI, rfl⟩ := idx_of q (by omega)
      exact ⟨I, hI, rfl, fun h0 S Y h c => by rw [hc h0 S Y h c, decide_eq_true q], fun q0 Y k r' => by rw [hd q0 Y k r', if_pos q]⟩
    · left
      exact ⟨fun h0 S Y h c => by rw [hc h0 S Y h c, decide_eq_false q], fun q0 Y k r' => by rw [hd q0 Y k r', if_neg q]⟩
def putA (A : Ab) (r I s : Nat) (v : Int64) : Ab := if tk (A.2.2.1 r).1 s = true then setR A r (setC (A.2.2.1 r) I (cvt (A.2.2.1 r).1 (mkC s v))) else A
theorem putA_wf {B : Nat} {X : List Nat} {A : Ab} {r I s : Nat} {v : Int64} (hB : 16 ≤ B) (w : Wf B X A) (hrw : rwOk B (A.2.2.1 r)) (hl : ∀ m, m ∈ X → m = r ∨ m ∈ X) (hs : s < 12) : Wf B X (putA A r I s v) := by
  unfold putA
  split
  · rename_i ht
    exact w.setR hl (rwOk_set hrw (celOk_cvt hB hrw.1 (c := mkC s v) hs ht (valOk_mkC hB hs v)))
  · exact w
theorem put_C {B : Nat} {h0 h : dnH} {A : Ab} {r I s : Nat} {v : Int64} (hB : 16 ≤ B) (c : CS h0 sp0 [] h A) (hr : r < 31) (hl : live [] A r) (hrw : rwOk B (A.2.2.1 r)) (hI : I < 12) (hs : s < 12) : ∃ h1 h2, fX5_become (some 260) (nI s) v h = some ((), h1) ∧ Sh h1 ∧ fX5_accept (some (5 + 4 * r)) (nI I) (some 260) 0 h1 = some (tk (A.2.2.1 r).1 s, h2) ∧ CS h0 sp0 [] h2 (putA A r I s v) := by
  obtain ⟨h1, a1, a2, a3⟩ := become_A (rw260 c.1) hs v
  have c1 := c.hand (by decide) (by decide) a2
  obtain ⟨h2, b1, b2, b3⟩ := accept_A (B := B) (i := I) (j := 0) (row1 c1.1 hr) (rw260 c1.1) (c1.row hr hl) a3 hI (by decide) hrw.1 (hrw.2.2 I hI) hs (valOk_mkC hB hs v) (fun e => by omega)
  refine ⟨h1, h2, a1, c1.1, b1, ?_⟩
  unfold putA
  have b3 : RwH h2 (5 + 4 * r) (if tk (A.2.2.1 r).1 s = true then setC (A.2.2.1 r) I (cvt (A.2.2.1 r).1 (mkC s v)) else A.2.2.1 r) := b3
  split
  · rename_i ht
    rw [if_pos ht] at b3
    exact c1.setRow hr (fun m hm => .inr hm) b2 b3
  · rename_i ht
    rw [if_neg ht] at b3
    have := c1.setRow (Y := []) hr (fun m hm => .inr hm) b2 b3
    have e : setR A r (A.2.2.1 r) = A := by
      unfold setR
      have : (fun m => if m = r then A.2.2.1 r else A.2.2.1 m) = A.2.2.1 := by
        funext m
        split
        · rename_i q; rw [q]
        · rfl
      rw [this]
    rw [e] at this
    exact this
theorem put_R {B : Nat} {h0 h : dnH} {X : List Nat} {A : Ab} {r I s : Nat} {v : Int64} (hB : 16 ≤ B) (c : RS h0 X h A) (hr : r < 31) (hl : live X A r) (hrw : rwOk B (A.2.2.1 r)) (hI : I < 12) (hs : s < 12) : ∃ h1 h2, fX13_makes (some 289) (nI s) v h = some ((), h1) ∧ RS h0 X h1 A ∧ fX13_puts (some 289) (nI r) (nI I) h1 = some (tk (A.2.2.1 r).1 s, h2) ∧ RS h0 X h2 (putA A r I s v) := by
  obtain ⟨h1, a1, c1, v1⟩ := makes_A c hs v
  obtain ⟨h2, b1, c2⟩ := puts_A (B := B) c1 v1 hr hl hI hrw.1 hs (valOk_mkC hB hs v)
  exact ⟨h1, h2, a1, c1, b1, c2⟩
theorem step_put {B : Nat} (hB : 16 ≤ B) (g p i s : Int32) (v : Int64) : Step B B (fX6_putCell (some 259) g p i s v) (fX13_putDeed (some 289) g p i s v) := by
  intro A w
  cases hg : inB g 0 3
  · exact step_ro (-1) w (fun h0 h c => by simp only [fX6_putCell, hg, dnB_eval, c_isGrid, c_isKind, c_isSort, c_isPlain, r_isGrid, r_isKind, r_isSort, r_isPlain, r_in, dnP, Bool.false_eq_true, if_false, if_true]) (fun q0 q r => by simp only [fX13_putDeed, hg, dnB_eval, c_isGrid, c_isKind, c_isSort, c_isPlain, r_isGrid, r_isKind, r_isSort, r_isPlain, r_in, dnP, Bool.false_eq_true, if_false, if_true])
  cases hk : inB s 0 11
  · exact step_ro (-1) w (fun h0 h c => by simp only [fX6_putCell, hg, hk, dnB_eval, c_isGrid, c_isKind, c_isSort, c_isPlain, r_isGrid, r_isKind, r_isSort, r_isPlain, r_in, dnP, Bool.false_eq_true, if_false, if_true]) (fun q0 q r => by simp only [fX13_putDeed, hg, hk, dnB_eval, c_isGrid, c_isKind, c_isSort, c_isPlain, r_isGrid, r_isKind, r_isSort, r_isPlain, r_in, dnP, Bool.false_eq_true, if_false, if_true])
  obtain ⟨s, hs, rfl⟩ := inB_of (n := 11) (by decide) hk
  rcases lookC w g p i with ⟨f, f0, -, f2, f3⟩ | ⟨G, q, m, r, hG, hq, hm, hr, rfl, rfl, e1, e2, -, hl, hrw, l1, l2, hc⟩
  · obtain ⟨n1, n2⟩ := neg_fault f0
    exact step_ro f w (fun h0 h c => by simp only [fX6_putCell, hg, hk, g_259_0 c.1, sv (st1 c.1), (f2 h0 _ _ h c).1, (f2 h0 _ _ h c).2, Option.elim, dnB_eval, c_isGrid, c_isKind, c_isSort, c_isPlain, r_isGrid, r_isKind, r_isSort, r_isPlain, r_in, dnP, Bool.false_eq_true, if_false, if_true]) (fun q0 q r => by simp only [fX13_putDeed, hg, hk, v_289 r.1, f3 hg q0 _ q r, n1, dnB_eval, c_isGrid, c_isKind, c_isSort, c_isPlain, r_isGrid, r_isKind, r_isSort, r_isPlain, r_in, dnP, Bool.false_eq_true, if_false, if_true])
  rcases hc with ⟨k1, k2⟩ | ⟨I, hI, rfl, k1, k2⟩
  · exact step_ro (-6) w (fun h0 h c => by simp only [fX6_putCell, hg, hk, g_259_0 c.1, sv (st1 c.1), l1 h0 _ _ h c, Option.elim, rv (row1 c.1 hr), k1 h0 _ _ h c, dnB_eval, c_isGrid, c_isKind, c_isSort, c_isPlain, r_isGrid, r_isKind, r_isSort, r_isPlain, r_in, dnP, Bool.false_eq_true, if_false, if_true]) (fun q0 q r => by simp only [fX13_putDeed, hg, hk, v_289 r.1, k2 q0 _ q r, show ¬ (-6 : Int32) = 0 by decide, dnB_eval, c_isGrid, c_isKind, c_isSort, c_isPlain, r_isGrid, r_isKind, r_isSort, r_isPlain, r_in, dnP, Bool.false_eq_true, if_false, if_true])
  · have hn := hrw.2.1
    refine ⟨if tk (A.2.2.1 r).1 s = true then 1 else -7, putA A r I s v, putA_wf hB w hrw (fun m hm => .inr hm) (by omega), fun h0 h c => ?_, fun q0 k r' => ?_⟩
    · obtain ⟨h1, h2, a1, s1, a2, c2⟩ := put_C (s := s) (v := v) hB c hr (hl _) hrw (show I < 12 by omega) (by omega)
      refine ⟨h2, ?_, c2⟩
      simp only [fX6_putCell, hg, hk, g_259_0 c.1, sv (st1 c.1), l1 h0 _ _ h c, Option.elim, rv (row1 c.1 hr), k1 h0 _ _ h c, g_259_2 c.1, rv (rw260 c.1), a1, g_259_2 s1, rv (row1 s1 hr), a2, dnB_eval, c_isGrid, c_isKind, c_isSort, c_isPlain, r_isGrid, r_isKind, r_isSort, r_isPlain, r_in, dnP, Bool.false_eq_true, if_false, if_true]
      generalize tk (A.2.2.1 r).1 s = b
      cases b <;> rfl
    · obtain ⟨h1, h2, a1, s1, a2, c2⟩ := put_R (s := s) (v := v) hB r' hr (hl _) hrw (show I < 12 by omega) (by omega)
      refine ⟨h2, _, ?_, c2⟩
      simp only [fX13_putDeed, hg, hk, v_289 r'.1, k2 q0 _ k r', a1, v_289 s1.1, (l2 q0 _ _ s1).2, a2, dnB_eval, c_isGrid, c_isKind, c_isSort, c_isPlain, r_isGrid, r_isKind, r_isSort, r_isPlain, r_in, dnP, Bool.false_eq_true, if_false, if_true]
      generalize tk (A.2.2.1 r).1 s = b
      cases b <;> rfl
theorem step_write {B : Nat} (hB : 16 ≤ B) (g p i s : Int32) (v : Int64) : Step B B (fX6_writeCell (some 259) g p i s v) (fX13_writeDeed (some 289) g p i s v) := by
  intro A w
  cases hg : inB g 0 3
  · exact step_ro (-1) w (fun h0 h c => by simp only [fX6_writeCell, hg, dnB_eval, c_isGrid, c_isKind, c_isSort, c_isPlain, r_isGrid, r_isKind, r_isSort, r_isPlain, r_in, dnP, Bool.false_eq_true, if_false, if_true]) (fun q0 q r => by simp only [fX13_writeDeed, hg, dnB_eval, c_isGrid, c_isKind, c_isSort, c_isPlain, r_isGrid, r_isKind, r_isSort, r_isPlain, r_in, dnP, Bool.false_eq_true, if_false, if_true])
  cases hk : inB s 0 7
  · exact step_ro (-1) w (fun h0 h c => by simp only [fX6_writeCell, hg, hk, dnB_eval, c_isGrid, c_isKind, c_isSort, c_isPlain, r_isGrid, r_isKind, r_isSort, r_isPlain, r_in, dnP, Bool.false_eq_true, if_false, if_true]) (fun q0 q r => by simp only [fX13_writeDeed, hg, hk, dnB_eval, c_isGrid, c_isKind, c_isSort, c_isPlain, r_isGrid, r_isKind, r_isSort, r_isPlain, r_in, dnP, Bool.false_eq_true, if_false, if_true])
  obtain ⟨s, hs, rfl⟩ := inB_of (n := 7) (by decide) hk
  have hk2 : inB (nI s) 0 11 = true := inB_nI (n := 11) (by decide) (by omega)
  rcases lookC w g p i with ⟨f, f0, -, f2, f3⟩ | ⟨G, q, m, r, hG, hq, hm, hr, rfl, rfl, e1, e2, -, hl, hrw, l1, l2, hc⟩
  · obtain ⟨n1, n2⟩ := neg_fault f0
    exact step_ro f w (fun h0 h c => by simp only [fX6_writeCell, fX6_writeCell_j56, fX6_putCell, hg, hk, hk2, g_259_0 c.1, v_259 c.1, sv (st1 c.1), (f2 h0 _ _ h c).1, (f2 h0 _ _ h c).2, Option.elim, dnB_eval, c_isGrid, c_isKind, c_isSort, c_isPlain, r_isGrid, r_isKind, r_isSort, r_isPlain, r_in, dnP, Bool.false_eq_true, if_false, if_true]) (fun q0 q r => by simp only [fX13_writeDeed, hg, hk, v_289 r.1, f3 hg q0 _ q r, n1, dnB_eval, c_isGrid, c_isKind, c_isSort, c_isPlain, r_isGrid, r_isKind, r_isSort, r_isPlain, r_in, dnP, Bool.false_eq_true, if_false, if_true])
  rcases hc with ⟨k1, k2⟩ | ⟨I, hI, rfl, k1, k2⟩
  · exact step_ro (-6) w (fun h0 h c => by simp only [fX6_writeCell, fX6_writeCell_j56, fX6_putCell, hg, hk, hk2, v_259 c.1, g_259_0 c.1, sv (st1 c.1), l1 h0 _ _ h c, Option.elim, rv (row1 c.1 hr), k1 h0 _ _ h c, dnB_eval, c_isGrid, c_isKind, c_isSort, c_isPlain, r_isGrid, r_isKind, r_isSort, r_isPlain, r_in, dnP, Bool.false_eq_true, if_false, if_true]) (fun q0 q r => by simp only [fX13_writeDeed, hg, hk, v_289 r.1, k2 q0 _ q r, show ¬ (-6 : Int32) = 0 by decide, dnB_eval, c_isGrid, c_isKind, c_isSort, c_isPlain, r_isGrid, r_isKind, r_isSort, r_isPlain, r_in, dnP, Bool.false_eq_true, if_false, if_true])
  · have hn := hrw.2.1
    by_cases h8 : (A.2.2.1 r).1 < 8
    · refine ⟨if tk (A.2.2.1 r).1 s = true then 1 else -7, putA A r I s v, putA_wf hB w hrw (fun m hm => .inr hm) (by omega), fun h0 h c => ?_, fun q0 k r' => ?_⟩
      · obtain ⟨h1, h2, a1, s1, a2, c2⟩ := put_C (s := s) (v := v) hB c hr (hl _) hrw (show I < 12 by omega) (by omega)
        refine ⟨h2, ?_, c2⟩
        simp only [fX6_writeCell, fX6_writeCell_j56, fX6_putCell, hg, hk, hk2, v_259 c.1, g_259_0 c.1, sv (st1 c.1), l1 h0 _ _ h c, Option.elim, rv (row1 c.1 hr), k1 h0 _ _ h c, rg_i (row1 c.1 hr), (c.row hr (hl _)).1, plain_nI hrw.1, h8, decide_true, g_259_2 c.1, rv (rw260 c.1), a1, g_259_2 s1, rv (row1 s1 hr), a2, dnB_eval, c_isGrid, c_isKind, c_isSort, c_isPlain, r_isGrid, r_isKind, r_isSort, r_isPlain, r_in, dnP, Bool.false_eq_true, if_false, if_true]
        generalize tk (A.2.2.1 r).1 s = b
        cases b <;> rfl
      · obtain ⟨h1, h2, a1, s1, a2, c2⟩ := put_R (s := s) (v := v) hB r' hr (hl _) hrw (show I < 12 by omega) (by omega)
        refine ⟨h2, _, ?_, c2⟩
        simp only [fX13_writeDeed, hg, hk, v_289 r'.1, k2 q0 _ k r', a1, v_289 s1.1, (l2 q0 _ _ r').2, g_289_6 s1.1, kind_A s1 hr (hl _), plain_nI hrw.1, h8, decide_true, a2, dnB_eval, c_isGrid, c_isKind, c_isSort, c_isPlain, r_isGrid, r_isKind, r_isSort, r_isPlain, r_in, dnP, Bool.false_eq_true, if_false, if_true]
        generalize tk (A.2.2.1 r).1 s = b
        cases b <;> rfl
    · refine ⟨-7, A, w, fun h0 h c => ⟨h, ?_, c⟩, fun q0 k r' => ?_⟩
      · simp only [fX6_writeCell, hg, hk, g_259_0 c.1, sv (st1 c.1), l1 h0 _ _ h c, Option.elim, rv (row1 c.1 hr), k1 h0 _ _ h c, rg_i (row1 c.1 hr), (c.row hr (hl _)).1, plain_nI hrw.1, h8, decide_false, dnB_eval, c_isGrid, c_isKind, c_isSort, c_isPlain, r_isGrid, r_isKind, r_isSort, r_isPlain, r_in, dnP, Bool.false_eq_true, if_false, if_true]
      · obtain ⟨h1, a1, c1, v1⟩ := makes_A r' (show s < 12 by omega) v
        refine ⟨h1, _, ?_, c1⟩
        simp only [fX13_writeDeed, hg, hk, v_289 r'.1, k2 q0 _ k r', a1, v_289 c1.1, (l2 q0 _ _ r').2, g_289_6 c1.1, kind_A c1 hr (hl _), plain_nI hrw.1, h8, decide_false, dnB_eval, c_isGrid, c_isKind, c_isSort, c_isPlain, r_isGrid, r_isKind, r_isSort, r_isPlain, r_in, dnP, Bool.false_eq_true, if_false, if_true]

theorem call_put {B : Nat} (hB : 16 ≤ B) (g p i s : Int32) (v : Int64) : Call B B (fX12_put (some 0) g p i s v) (fX13_put (some 289) g p i s v) :=
  callA (Nat.le_refl _) (fun h v h1 s1 s2 e => by simp only [fX12_put, dnB_eval, g_0_4 s1, v_259 s1, e, v_0 s2, tally_c s2, dnP]) (fun h v h1 s1 s2 e => by simp only [fX13_put, dnB_eval, v_289 s1, e, v_289 s2, said_r s2, dnP]) (step_put hB g p i s v)

theorem call_write {B : Nat} (hB : 16 ≤ B) (g p i s : Int32) (v : Int64) : Call B B (fX12_write (some 0) g p i s v) (fX13_write (some 289) g p i s v) :=
  callA (Nat.le_refl _) (fun h v h1 s1 s2 e => by simp only [fX12_write, dnB_eval, g_0_4 s1, v_259 s1, e, v_0 s2, tally_c s2, dnP]) (fun h v h1 s1 s2 e => by simp only [fX13_write, dnB_eval, v_289 s1, e, v_289 s2, said_r s2, dnP]) (step_write hB g p i s v)
