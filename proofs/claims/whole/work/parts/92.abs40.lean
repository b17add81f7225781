/-! ABS 40: fold -/
def chs (way line y x : Int32) : Bool := if way = 0 then decide (y = line) else if way = 1 then decide (x = line) else if way = 2 then decide (y + x = line) else true
theorem c_chs (way line y x : Int32) : fX10_isChosen way line y x = dnP (chs way line y x) := by
  unfold fX10_isChosen chs
  by_cases e0 : way = 0
  · rw [if_pos e0, if_pos e0]
    by_cases q : y = line <;> simp [q]
  · rw [if_neg e0, if_neg e0]
    by_cases e1 : way = 1
    · rw [if_pos e1, if_pos e1]
      by_cases q : x = line <;> simp [q]
    · rw [if_neg e1, if_neg e1]
      by_cases e2 : way = 2
      · rw [if_pos e2, if_pos e2]
        by_cases q : y + x = line <;> simp [q]
      · rw [if_neg e2, if_neg e2]
theorem r_chs (way line y x : Int32) : fX13_isOfWay way line y x = dnP (chs way line y x) := by
  rw [← c_chs]
  unfold fX13_isOfWay fX10_isChosen
  by_cases e0 : way = 0
  · rw [if_pos e0, if_neg (not_not_intro e0)]
  · rw [if_neg e0, if_pos e0]
    by_cases e1 : way = 1
    · rw [if_pos e1, if_neg (not_not_intro e1)]
    · rw [if_neg e1, if_pos e1]
      by_cases e2 : way = 2
      · rw [if_pos e2, if_neg (not_not_intro e2)]
      · rw [if_neg e2, if_pos e2]
def fo (way line op s : Int32) : Bool := inB way 0 3 && decide (0 ≤ line) && inB op 0 4 && isAs s && (decide (¬ way = 3) || decide (line = 0)) && (decide (¬ op = 3) || decide (¬ s = 7))
theorem c_fold (way line op s : Int32) : fX10_isFoldable way line op s = dnP (fo way line op s) := by
  have iw : (¬ way < 0 ∧ ¬ 3 < way) ↔ inB way 0 3 = true := by unfold inB; rw [decide_eq_true_eq, Int32.not_lt, Int32.not_lt]
  have io : (¬ op < 0 ∧ ¬ 4 < op) ↔ inB op 0 4 = true := by unfold inB; rw [decide_eq_true_eq, Int32.not_lt, Int32.not_lt]
  unfold fX10_isFoldable fX10_isFoldable_j33 fX10_isFoldable_j34 fX10_isFoldable_j50 fX10_isFoldable_j61 fo
  funext k
  simp only [c_sum, dnB_eval, dnP]
  cases hw : inB way 0 3
  · have : ¬ (¬ way < 0 ∧ ¬ 3 < way) := fun hc => by rw [iw.mp hc] at hw; cases hw
    by_cases y1 : way < 0
    · simp [dnB_eval, dnP, c_sum, r_isGrid, r_in, r_as, y1]
    · have y2 : 3 < way := Decidable.not_not.mp (fun hc => this ⟨y1, hc⟩)
      simp [dnB_eval, dnP, c_sum, r_isGrid, r_in, r_as, y1, y2]
  · obtain ⟨w1, w2⟩ := iw.mpr hw
    by_cases y3 : line < 0
    · have y4 : ¬ 0 ≤ line := Int32.not_le.mpr y3
      simp [dnB_eval, dnP, c_sum, r_isGrid, r_in, r_as, w1, w2, y3, y4]
    · have y4 : 0 ≤ line := Int32.not_lt.mp y3
      cases ho : inB op 0 4
      · have : ¬ (¬ op < 0 ∧ ¬ 4 < op) := fun hc => by rw [io.mp hc] at ho; cases ho
        by_cases y1 : op < 0
        · simp [dnB_eval, dnP, c_sum, r_isGrid, r_in, r_as, w1, w2, y3, y4, y1]
        · have y2 : 4 < op := Decidable.not_not.mp (fun hc => this ⟨y1, hc⟩)
          simp [dnB_eval, dnP, c_sum, r_isGrid, r_in, r_as, w1, w2, y3, y4, y1, y2]
      · obtain ⟨o1, o2⟩ := io.mpr ho
        cases hs : isAs s
        · simp [dnB_eval, dnP, c_sum, hs, w1, w2, y3, y4, o1, o2]
        · by_cases z1 : way = 3
          · by_cases z2 : line = 0
            · by_cases z3 : op = 3
              · by_cases z4 : s = 7 <;> simp [dnB_eval, dnP, c_sum, hs, w1, w2, y3, y4, o1, o2, z1, z2, z3, z4]
              · simp [dnB_eval, dnP, c_sum, hs, w1, w2, y3, y4, o1, o2, z1, z2, z3]
            · simp [dnB_eval, dnP, c_sum, hs, w1, w2, y3, y4, o1, o2, z1, z2]
          · by_cases z3 : op = 3
            · by_cases z4 : s = 7 <;> simp [dnB_eval, dnP, c_sum, hs, w1, w2, y3, y4, o1, o2, z1, z3, z4]
            · simp [dnB_eval, dnP, c_sum, hs, w1, w2, y3, y4, o1, o2, z1, z3]
theorem r_fold (g way line op s : Int32) (k : dnH) : fX13_foldAnswer (some 289) g way line op s k = if (inB g 0 3 && fo way line op s) = true then fX13_foldAnswer_j74 (some 289) g way line op s k else some (-1, k) := by
  unfold fo
  simp only [fX13_foldAnswer, fX13_foldAnswer_j42, fX13_foldAnswer_j43, fX13_foldAnswer_j59, r_isGrid, r_in, r_as, dnB_eval, dnP]
  cases hg : inB g 0 3
  · simp [dnB_eval, dnP, c_sum, r_isGrid, r_in, r_as, hg]
  · cases hw : inB way 0 3
    · simp [dnB_eval, dnP, c_sum, r_isGrid, r_in, r_as, hg, hw]
    · by_cases y3 : line < 0
      · have y4 : ¬ 0 ≤ line := Int32.not_le.mpr y3
        simp [dnB_eval, dnP, c_sum, r_isGrid, r_in, r_as, hg, hw, y3, y4]
      · have y4 : 0 ≤ line := Int32.not_lt.mp y3
        cases ho : inB op 0 4
        · simp [dnB_eval, dnP, c_sum, r_isGrid, r_in, r_as, hg, hw, y3, y4, ho]
        · cases hs : isAs s
          · simp [dnB_eval, dnP, c_sum, r_isGrid, r_in, r_as, hg, hw, y3, y4, ho, hs]
          · by_cases z1 : way = 3
            · by_cases z2 : line = 0
              · by_cases z3 : op = 3
                · by_cases z4 : s = 7 <;> simp [dnB_eval, dnP, r_isGrid, r_in, r_as, hg, hw, ho, hs, y3, y4, z1, z2, z3, z4]
                · simp [dnB_eval, dnP, r_isGrid, r_in, r_as, hg, hw, ho, hs, y3, y4, z1, z2, z3]
              · simp [dnB_eval, dnP, r_isGrid, r_in, r_as, hg, hw, ho, hs, y3, y4, z1, z2]
            · by_cases z3 : op = 3
              · by_cases z4 : s = 7 <;> simp [dnB_eval, dnP, r_isGrid, r_in, r_as, hg, hw, ho, hs, y3, y4, z1, z3, z4]
              · simp [dnB_eval, dnP, r_isGrid, r_in, r_as, hg, hw, ho, hs, y3, y4, z1, z3]

def fd (A : Ab) (G a : Nat) (way line : Int32) : Nat → List Cel × Nat
  | 0 => ([], 0)
  | i + 1 => match gv A (6 * G + i / 12) with
    | none => fd A G a way line i
    | some R => if (decide (i % 12 < R.2.1) && chs way line (nI (i / 12)) (nI (i % 12))) = true then (if (decide (R.1 < 8) && tk a R.1) = true then (cvt a (R.2.2 (i % 12)) :: (fd A G a way line i).1, (fd A G a way line i).2) else ((fd A G a way line i).1, (fd A G a way line i).2 + 1)) else fd A G a way line i
theorem fd_s {A : Ab} {G a : Nat} {way line : Int32} {y x : Nat} (hx : x < 12) : fd A G a way line (12 * y + x + 1) = match gv A (6 * G + y) with
    | none => fd A G a way line (12 * y + x)
    | some R => if (decide (x < R.2.1) && chs way line (nI y) (nI x)) = true then (if (decide (R.1 < 8) && tk a R.1) = true then (cvt a (R.2.2 x) :: (fd A G a way line (12 * y + x)).1, (fd A G a way line (12 * y + x)).2) else ((fd A G a way line (12 * y + x)).1, (fd A G a way line (12 * y + x)).2 + 1)) else fd A G a way line (12 * y + x) := by
  have e1 : (12 * y + x) / 12 = y := by omega
  have e2 : (12 * y + x) % 12 = x := by omega
  rw [fd, e1, e2]
theorem elOk_cvt {B a i : Nat} {R : Rw} (hB : 16 ≤ B) (hB2 : B < 2 ^ 24) (ha : a = 4 ∨ a = 5 ∨ a = 7) (ok : rwOk B R) (hi : i < 12) (hrd : (decide (R.1 < 8) && tk a R.1) = true) : elOk a (cvt a (R.2.2 i)) := by
  obtain ⟨z1, z2⟩ := Bool.and_eq_true_iff.mp hrd
  have oki := ok.2.2 i hi
  have tki : tk a (R.2.2 i).1 = true := by rw [oki.2.2.1 (of_decide_eq_true z1)]; exact z2
  have okx := celOk_cvt hB (show a < 12 by omega) oki.1 tki oki.2.2.2
  refine ⟨val_mg (a := a) hB2 okx.2.2.2, fun e => ?_⟩
  have e1 : (cvt a (R.2.2 i)).1 = a := if_pos (by omega)
  obtain ⟨g1, g2⟩ := okx.2.2.2.1 (by rw [e1]; omega)
  refine Int64.toInt_inj.mp ?_
  rw [Int32.toInt_toInt64, Int64.toInt_toInt32]
  exact Int.bmod_eq_of_le (by omega) (by omega)
theorem fd_ok {B : Nat} {A : Ab} (w : Wf B [] A) (hB : 16 ≤ B) (hB2 : B < 2 ^ 24) {G m a : Nat} (ha : a = 4 ∨ a = 5 ∨ a = 7) (way line : Int32) (hG : G < 4) (hm : m ≤ 6) (e1 : A.1 G = nI m) : ∀ i, i ≤ 12 * m → (∀ c, c ∈ (fd A G a way line i).1 → elOk a c) ∧ (fd A G a way line i).1.length ≤ i ∧ (fd A G a way line i).2 ≤ i := by
  intro i
  induction i with
  | zero => intro _; exact ⟨fun c hc => (by cases hc), Nat.le_refl _, Nat.le_refl _⟩
  | succ i ih =>
    intro hi
    obtain ⟨k1, k2, k3⟩ := ih (by omega)
    have es := fd_s (A := A) (G := G) (a := a) (way := way) (line := line) (y := i / 12) (x := i % 12) (by omega)
    rw [show 12 * (i / 12) + i % 12 = i by omega] at es
    rw [es]
    rcases gv_A w hG hm e1 (show i / 12 < m by omega) with ⟨e, -, -⟩ | ⟨r, hr, e, -, hl, o, -, -⟩
    · rw [e]
      exact ⟨k1, by dsimp only; omega, by dsimp only; omega⟩
    · rw [e]
      dsimp only
      split
      · split
        · rename_i hrd
          refine ⟨fun c hc => ?_, by show _ + 1 ≤ _; omega, by show _ ≤ _; dsimp only; omega⟩
          rcases List.mem_cons.mp hc with hc | hc
          · rw [hc]
            exact elOk_cvt hB hB2 ha o (by omega) hrd
          · exact k1 c hc
        · exact ⟨k1, by dsimp only; omega, by dsimp only; omega⟩
      · exact ⟨k1, by omega, by omega⟩
theorem fd_end {A : Ab} {G a : Nat} {way line : Int32} {y n : Nat} (hn : ∀ R, gv A (6 * G + y) = some R → R.2.1 ≤ n) : ∀ d, n + d ≤ 12 → fd A G a way line (12 * y + (n + d)) = fd A G a way line (12 * y + n) := by
  intro d
  induction d with
  | zero => intro _; rfl
  | succ d ih =>
    intro hd
    rw [show 12 * y + (n + (d + 1)) = 12 * y + (n + d) + 1 by omega, fd_s (by omega), ← ih (by omega)]
    cases e : gv A (6 * G + y) with
    | none => rfl
    | some R =>
      dsimp only
      have := hn R e
      rw [decide_eq_false (by omega), Bool.false_and]
      rfl
theorem take_no {B op a : Nat} {h0 h : dnH} {A : Ab} {r i : Nat} (ha : a < 8) (c : CS h0 sp0 [] h A) (hr : r < 31) (hl : live [] A r) (ok : rwOk B (A.2.2.1 r)) (hrd : (decide ((A.2.2.1 r).1 < 8) && tk a (A.2.2.1 r).1) = false) : fX10_take (some 269) (some (5 + 4 * r)) (nI i) (nI op) (nI a) h = some (false, h) := by
  have rd := c_readsAs ok.1 (show a < 12 by omega)
  rw [decide_eq_true ha, Bool.and_true, hrd] at rd
  simp only [fX10_take, Option.elim, dnB_eval, rg_i (row1 c.1 hr), (c.row hr hl).1, rd, dnP, Bool.false_eq_true, if_false]
theorem foldRow_c {B : Nat} {A : Ab} (w : Wf B [] A) (hB : 16 ≤ B) (hB2 : B < 2 ^ 24) {G m a op y : Nat} (hop : op ≤ 4) (ha : a = 4 ∨ a = 5 ∨ a = 7) (way line : Int32) (hG : G < 4) (hm : m ≤ 6) (e1 : A.1 G = nI m) (hy : y < m) {h0 h : dnH} (c : CS h0 sp0 [] h A) (s : Lc op a h (fd A G a way line (12 * y)).1) : ∃ v h2, fX9_cellsAt (some 1) (nI G) (nI y) h = some (v, h) ∧ dnIt 1000 (fX10_foldCells_b94 (some 269) (nI G) way line (nI op) (nI a) (nI y) v) (nI (fd A G a way line (12 * y)).2, 0) h = some (nI (fd A G a way line (12 * (y + 1))).2, h2) ∧ CS h0 sp0 [] h2 A ∧ Lc op a h2 (fd A G a way line (12 * (y + 1))).1 := by
  rcases gv_A w hG hm e1 hy with ⟨e, kc, -⟩ | ⟨r, hr, e, -, hl, o, kc, -⟩
  · have ee := fd_end (A := A) (G := G) (a := a) (way := way) (line := line) (y := y) (n := 0) (fun R hR => by rw [e] at hR; cases hR) 12 (by omega)
    rw [show 12 * y + (0 + 12) = 12 * (y + 1) by omega, Nat.add_zero] at ee
    rw [ee]
    refine ⟨0, h, by simp only [fX9_cellsAt, dnB_eval, sv (st1 c.1), kc h0 _ _ h c, Option.elim, dnP], ?_, c, s⟩
    exact dnIt_run (f := fX10_foldCells_b94 (some 269) (nI G) way line (nI op) (nI a) (nI y) 0) (q := nI (fd A G a way line (12 * y)).2) (hq := h) 0 1000 (fun _ => ((nI (fd A G a way line (12 * y)).2, 0), h)) (by omega) (fun i hi => by omega) (by simp only [fX10_foldCells_b94, Int32.le_refl, if_true, dnP])
  · have N1 := o.2.1
    have rr := c.row hr (hl _)
    have ee := fd_end (A := A) (G := G) (a := a) (way := way) (line := line) (y := y) (n := (A.2.2.1 r).2.1) (fun R hR => by rw [e] at hR; cases hR; exact Nat.le_refl _) (12 - (A.2.2.1 r).2.1) (by omega)
    rw [show 12 * y + ((A.2.2.1 r).2.1 + (12 - (A.2.2.1 r).2.1)) = 12 * (y + 1) by omega] at ee
    rw [ee]
    have KK := it_inv (f := fX10_foldCells_b94 (some 269) (nI G) way line (nI op) (nI a) (nI y) (nI (A.2.2.1 r).2.1)) (Q := fun v k => v = nI (fd A G a way line (12 * y + (A.2.2.1 r).2.1)).2 ∧ CS h0 sp0 [] k A ∧ Lc op a k (fd A G a way line (12 * y + (A.2.2.1 r).2.1)).1) (fun j s k => s = (nI (fd A G a way line (12 * y + j)).2, nI j) ∧ CS h0 sp0 [] k A ∧ Lc op a k (fd A G a way line (12 * y + j)).1) (A.2.2.1 r).2.1 1000 0 (by omega) (by omega) ?_ ?_ (nI (fd A G a way line (12 * y)).2, 0) h ⟨rfl, c, s⟩
    · obtain ⟨_, h2, b1, rfl, c2, s2⟩ := KK
      exact ⟨nI (A.2.2.1 r).2.1, h2, by simp only [fX9_cellsAt, dnB_eval, sv (st1 c.1), kc h0 _ _ h c, Option.elim, rg_i (row1 c.1 hr), rr.2.1, dnP], b1, c2, s2⟩
    · rintro j s k hj ⟨rfl, ck, sk⟩
      left
      have hc : ¬ (nI (A.2.2.1 r).2.1 ≤ nI j) := fun hc => by have := (nI_leI (a := (A.2.2.1 r).2.1) (b := j) (by omega) (by omega)).mp hc; omega
      obtain ⟨k1, k2, k3⟩ := fd_ok w hB hB2 ha way line hG hm e1 (12 * y + j) (by omega)
      have es := fd_s (A := A) (G := G) (a := a) (way := way) (line := line) (y := y) (x := j) (by omega)
      rw [e] at es
      dsimp only at es
      rw [decide_eq_true hj, Bool.true_and] at es
      cases hch : chs way line (nI y) (nI j)
      · rw [hch] at es
        have es : fd A G a way line (12 * y + (j + 1)) = fd A G a way line (12 * y + j) := es
        refine ⟨_, k, ?_, rfl, ck, by rw [es]; exact sk⟩
        rw [es]
        simp only [fX10_foldCells_b94, fX10_foldCells_j146, dnB_eval, hc, if_false, c_chs, hch, dnP, Bool.false_eq_true, nI_1]
      · rw [hch] at es
        cases hrd : (decide ((A.2.2.1 r).1 < 8) && tk a (A.2.2.1 r).1)
        · rw [hrd] at es
          have es : fd A G a way line (12 * y + (j + 1)) = ((fd A G a way line (12 * y + j)).1, (fd A G a way line (12 * y + j)).2 + 1) := es
          have t := take_no (op := op) (i := j) (a := a) (by omega) ck hr (hl _) o hrd
          refine ⟨_, k, ?_, rfl, ck, by rw [es]; exact sk⟩
          rw [es]
          have ez : nI (fd A G a way line (12 * y + j)).2 + dnZ true = nI ((fd A G a way line (12 * y + j)).2 + 1) := nI_1 _
          simp only [fX10_foldCells_b94, fX10_foldCells_j143, fX10_foldCells_j146, dnB_eval, hc, if_false, c_chs, hch, dnP, if_true, g_269_0 ck.1, sv (st1 ck.1), kc h0 _ _ k ck, v_269 ck.1, t, Bool.false_eq_true, ez, nI_1]
        · rw [hrd] at es
          have es : fd A G a way line (12 * y + (j + 1)) = (cvt a ((A.2.2.1 r).2.2 j) :: (fd A G a way line (12 * y + j)).1, (fd A G a way line (12 * y + j)).2) := es
          obtain ⟨h2, t1, t2, t3, -⟩ := take_A hB hB2 hop ha ck hr (hl _) o (show j < 12 by omega) k1 (by omega) sk hrd
          refine ⟨_, h2, ?_, rfl, t2, by rw [es]; exact t3⟩
          rw [es]
          have ez : nI (fd A G a way line (12 * y + j)).2 + dnZ false = nI (fd A G a way line (12 * y + j)).2 := Int32.add_zero _
          simp only [fX10_foldCells_b94, fX10_foldCells_j143, fX10_foldCells_j146, dnB_eval, hc, if_false, c_chs, hch, dnP, if_true, g_269_0 ck.1, sv (st1 ck.1), kc h0 _ _ k ck, v_269 ck.1, t1, ez, nI_1]
    · rintro s k ⟨rfl, ck, sk⟩
      exact ⟨_, k, by simp only [fX10_foldCells_b94, Int32.le_refl, if_true, dnP], rfl, ck, sk⟩
theorem foldAll_c {B : Nat} {A : Ab} (w : Wf B [] A) (hB : 16 ≤ B) (hB2 : B < 2 ^ 24) {G m a op : Nat} (hop : op ≤ 4) (ha : a = 4 ∨ a = 5 ∨ a = 7) (way line : Int32) (hG : G < 4) (hm : m ≤ 6) (e1 : A.1 G = nI m) {h0 h : dnH} (c : CS h0 sp0 [] h A) (s : Lc op a h []) : ∃ h2, dnIt 1000 (fX10_foldCells_b65 (some 269) (nI G) way line (nI op) (nI a)) (0, 0) h = some (nI (fd A G a way line (12 * m)).2, h2) ∧ CS h0 sp0 [] h2 A ∧ Lc op a h2 (fd A G a way line (12 * m)).1 := by
  have KK := it_inv (f := fX10_foldCells_b65 (some 269) (nI G) way line (nI op) (nI a)) (Q := fun v k => v = nI (fd A G a way line (12 * m)).2 ∧ CS h0 sp0 [] k A ∧ Lc op a k (fd A G a way line (12 * m)).1) (fun j s k => s = (nI (fd A G a way line (12 * j)).2, nI j) ∧ CS h0 sp0 [] k A ∧ Lc op a k (fd A G a way line (12 * j)).1) m 1000 0 (by omega) (by omega) ?_ ?_ (0, 0) h ⟨rfl, c, s⟩
  · obtain ⟨_, h2, b1, rfl, c2, s2⟩ := KK
    exact ⟨h2, b1, c2, s2⟩
  · rintro j s k hj ⟨rfl, ck, sk⟩
    left
    have hc : ¬ (nI m ≤ nI j) := fun hc => by have := (nI_leI (a := m) (b := j) (by omega) (by omega)).mp hc; omega
    have pl := plc_A ck hG
    rw [e1] at pl
    obtain ⟨v, h2, b1, b2, b3, b4⟩ := foldRow_c w hB hB2 hop ha way line hG hm e1 hj ck sk
    refine ⟨_, h2, ?_, rfl, b3, b4⟩
    simp only [fX10_foldCells_b65, dnB_eval, g_269_0 ck.1, sg_0 (st1 ck.1), pl, hc, if_false, sv (st1 ck.1), b1, b2, dnP, nI_1]
  · rintro s k ⟨rfl, ck, sk⟩
    have pl := plc_A ck hG
    rw [e1] at pl
    exact ⟨_, k, by simp only [fX10_foldCells_b65, dnB_eval, g_269_0 ck.1, sg_0 (st1 ck.1), pl, Int32.le_refl, if_true, dnP], rfl, ck, sk⟩
theorem foldAll_r {B : Nat} {A : Ab} (w : Wf B [] A) (hB : 16 ≤ B) (hB2 : B < 2 ^ 24) {G m a op : Nat} (hop : op ≤ 4) (ha : a = 4 ∨ a = 5 ∨ a = 7) (h37 : op = 3 → a ≠ 7) (way line : Int32) (hG : G < 4) (hm : m ≤ 6) (e1 : A.1 G = nI m) {q0 h : dnH} (c : RS q0 [] h A) (s : Lr op a h []) : ∃ h2, dnIt 1000 (fX13_foldAnswer_b133 (some 289) (nI G) way line (nI op) (nI a)) (0, 0) h = some (nI (fd A G a way line (12 * m)).2, h2) ∧ RS q0 [] h2 A ∧ Lr op a h2 (fd A G a way line (12 * m)).1 := by
  have em : (12 : Int32) * nI m = nI (12 * m) := nI_mul 12 m
  have KK := it_inv (f := fX13_foldAnswer_b133 (some 289) (nI G) way line (nI op) (nI a)) (Q := fun v k => v = nI (fd A G a way line (12 * m)).2 ∧ RS q0 [] k A ∧ Lr op a k (fd A G a way line (12 * m)).1) (fun j s k => s = (nI (fd A G a way line j).2, nI j) ∧ RS q0 [] k A ∧ Lr op a k (fd A G a way line j).1) (12 * m) 1000 0 (by omega) (by omega) ?_ ?_ (0, 0) h ⟨rfl, c, s⟩
  · obtain ⟨_, h2, b1, rfl, c2, s2⟩ := KK
    exact ⟨h2, b1, c2, s2⟩
  · rintro j s k hj ⟨rfl, rk, sk⟩
    left
    have hc : ¬ (nI (12 * m) ≤ nI j) := fun hc => by have := (nI_leI (a := 12 * m) (b := j) (by omega) (by omega)).mp hc; omega
    have pl := plr_A rk hG
    rw [e1] at pl
    have d1 : nI j / 12 = nI (j / 12) := div_I (b := 12) (by omega) (by decide)
    have d2 : nI j - nI (j / 12) * 12 = nI (j % 12) := by
      rw [show (12 : Int32) = nI 12 from rfl, nI_mul, nI_sub (by omega), show j - j / 12 * 12 = j % 12 by omega]
    have nz : dnNz 12 k = some ((), k) := by unfold dnNz; rw [if_neg (by decide)]
    obtain ⟨k1, k2, k3⟩ := fd_ok w hB hB2 ha way line hG hm e1 j (by omega)
    have es := fd_s (A := A) (G := G) (a := a) (way := way) (line := line) (y := j / 12) (x := j % 12) (by omega)
    rw [show 12 * (j / 12) + j % 12 = j by omega] at es
    have hcl := hasCell_N (j := j % 12) w hG hm e1 (show j / 12 < m by omega) (by omega) q0 _ k rk
    rcases gv_A w hG hm e1 (show j / 12 < m by omega) with ⟨e, -, kr⟩ | ⟨r, hr, e, -, hl, o, -, kr⟩
    · rw [e] at es hcl
      dsimp only at es hcl
      refine ⟨_, k, ?_, rfl, rk, by rw [es]; exact sk⟩
      rw [es]
      simp only [fX13_foldAnswer_b133, fX13_foldAnswer_j215, dnB_eval, g_289_4 rk.1, pl, em, hc, if_false, nz, d1, d2, v_289 rk.1, hcl, Bool.false_eq_true, dnP, nI_1]
    · rw [e] at es hcl
      dsimp only at es hcl
      have hd := (kr q0 _ k rk).2
      cases hh : decide (j % 12 < (A.2.2.1 r).2.1)
      · rw [hh] at es hcl
        rw [Bool.false_and] at es
        have es : fd A G a way line (j + 1) = fd A G a way line j := es
        refine ⟨_, k, ?_, rfl, rk, by rw [es]; exact sk⟩
        rw [es]
        simp only [fX13_foldAnswer_b133, fX13_foldAnswer_j215, dnB_eval, g_289_4 rk.1, pl, em, hc, if_false, nz, d1, d2, v_289 rk.1, hcl, Bool.false_eq_true, dnP, nI_1]
      · rw [hh] at es hcl
        rw [Bool.true_and] at es
        cases hch : chs way line (nI (j / 12)) (nI (j % 12))
        · rw [hch] at es
          have es : fd A G a way line (j + 1) = fd A G a way line j := es
          refine ⟨_, k, ?_, rfl, rk, by rw [es]; exact sk⟩
          rw [es]
          simp only [fX13_foldAnswer_b133, fX13_foldAnswer_j215, dnB_eval, g_289_4 rk.1, pl, em, hc, if_false, nz, d1, d2, v_289 rk.1, hcl, if_true, r_chs, hch, Bool.false_eq_true, dnP, nI_1]
        · rw [hch] at es
          cases hrd : (decide ((A.2.2.1 r).1 < 8) && tk a (A.2.2.1 r).1)
          · rw [hrd] at es
            have es : fd A G a way line (j + 1) = ((fd A G a way line j).1, (fd A G a way line j).2 + 1) := es
            have ird := isReadable_A rk hr (hl _) o.1 (show a < 12 by omega)
            rw [hrd] at ird
            refine ⟨_, k, ?_, rfl, rk, by rw [es]; exact sk⟩
            rw [es]
            have ez : nI (fd A G a way line j).2 + dnZ true = nI ((fd A G a way line j).2 + 1) := nI_1 _
            simp only [fX13_foldAnswer_b133, fX13_foldAnswer_j212, fX13_foldAnswer_j215, fX13_foldsCell, dnB_eval, g_289_4 rk.1, pl, em, hc, if_false, nz, d1, d2, v_289 rk.1, hcl, if_true, r_chs, hch, hd, ird, Bool.false_eq_true, dnP, ez, nI_1]
          · rw [hrd] at es
            have es : fd A G a way line (j + 1) = (cvt a ((A.2.2.1 r).2.2 (j % 12)) :: (fd A G a way line j).1, (fd A G a way line j).2) := es
            obtain ⟨h2, t1, t2, t3⟩ := foldsCell_A hB hB2 hop ha h37 rk hr (hl _) o (show j % 12 < 12 by omega) k1 (by omega) (elOk_cvt hB hB2 ha o (by omega) hrd) sk hrd
            refine ⟨_, h2, ?_, rfl, t2, by rw [es]; exact t3⟩
            rw [es]
            have ez : nI (fd A G a way line j).2 + dnZ false = nI (fd A G a way line j).2 := Int32.add_zero _
            simp only [fX13_foldAnswer_b133, fX13_foldAnswer_j212, fX13_foldAnswer_j215, dnB_eval, g_289_4 rk.1, pl, em, hc, if_false, nz, d1, d2, v_289 rk.1, hcl, if_true, r_chs, hch, hd, t1, dnP, ez, nI_1]
  · rintro s k ⟨rfl, rk, sk⟩
    have pl := plr_A rk hG
    rw [e1] at pl
    exact ⟨_, k, by simp only [fX13_foldAnswer_b133, dnB_eval, g_289_4 rk.1, pl, em, Int32.le_refl, if_true, dnP], rfl, rk, sk⟩

def fv (op a : Nat) (L : List Cel) : Int64 := if op = 4 then (nI (nzL a L)).toInt64 else if a = 7 then FP.d2l (FP.dmul 4620693217682128896 (fR op L)) else fW op a L
theorem step_fold {B : Nat} (hB : 16 ≤ B) (hB2 : B < 2 ^ 24) (g way line op s : Int32) : Step B B (fX10_foldCells (some 269) g way line op s) (fX13_foldAnswer (some 289) g way line op s) := by
  intro A w
  cases hg : inB g 0 3
  · exact step_ro (-1) w (fun h0 h c => by simp only [fX10_foldCells, hg, dnB_eval, c_isGrid, c_isKind, c_isSort, c_isPlain, r_isGrid, r_isKind, r_isSort, r_isPlain, r_in, dnP, Bool.false_eq_true, if_false, if_true]) (fun q0 q r => by rw [r_fold, hg]; rfl)
  cases hf : fo way line op s
  · exact step_ro (-1) w (fun h0 h c => by simp only [fX10_foldCells, hg, c_fold, hf, dnB_eval, c_isGrid, c_isKind, c_isSort, c_isPlain, r_isGrid, r_isKind, r_isSort, r_isPlain, r_in, dnP, Bool.false_eq_true, if_false, if_true]) (fun q0 q r => by rw [r_fold, hg, hf]; rfl)
  obtain ⟨G, hG, rfl⟩ := inB_of (n := 3) (by decide) hg
  have hG : G < 4 := by omega
  have hf2 := hf
  unfold fo at hf2
  simp only [Bool.and_eq_true] at hf2
  obtain ⟨⟨⟨⟨⟨-, -⟩, f3⟩, f4⟩, -⟩, f6⟩ := hf2
  obtain ⟨op, hop, rfl⟩ := inB_of (n := 4) (by decide) f3
  obtain ⟨a, rfl, ha⟩ := as_of f4
  have a7 : (nI a = 7) ↔ a = 7 := nI_eq (b := 7) (by omega) (by decide)
  have o4 : (nI op = 4) ↔ op = 4 := nI_eq (b := 4) (by omega) (by decide)
  have o3 : (nI op = 3) ↔ op = 3 := nI_eq (b := 3) (by omega) (by decide)
  have h37 : op = 3 → a ≠ 7 := fun x y => by
    rw [o3.mpr x, a7.mpr y] at f6
    exact absurd f6 (by decide)
  have z0 : (0 : Int32) ≤ 0 := by decide
  have dr : ∀ k x, fX13_foldAnswer_j74 (some 289) (nI G) way line (nI op) (nI a) k = x → fX13_foldAnswer (some 289) (nI G) way line (nI op) (nI a) k = x := fun k x hx => by
    rw [r_fold, hg, hf]
    exact hx
  have main : ∀ m, m ≤ 6 → A.1 G = nI m → (∀ h0 h, CS h0 sp0 [] h A → ∃ h2, fX10_foldCells_j45 (some 269) (nI G) way line (nI op) (nI a) 0 h = some (nI (fd A G a way line (12 * m)).1.length, h2) ∧ CS h0 sp0 [] h2 (setN A (fv op a (fd A G a way line (12 * m)).1, A.2.2.2.2.1, nI (fd A G a way line (12 * m)).2))) ∧ ∀ q0 k, RS q0 [] k A → ∃ k2, fX13_foldAnswer_j102 (some 289) (nI G) way line (nI op) (nI a) 0 k = some (nI (fd A G a way line (12 * m)).1.length, k2) ∧ RS q0 [] k2 (setN A (fv op a (fd A G a way line (12 * m)).1, A.2.2.2.2.1, nI (fd A G a way line (12 * m)).2)) := fun m hm e1 => by
    obtain ⟨k1, k2, k3⟩ := fd_ok w hB hB2 ha way line hG hm e1 (12 * m) (Nat.le_refl _)
    have fm := fR_mg (op := op) (fd A G a way line (12 * m)).1 k1 (by omega)
    refine ⟨fun h0 h c => ?_, fun q0 k r' => ?_⟩
    · have b0 : fX10_begin (some 269) h = some ((), dnSI (dnSI (dnSD (dnSL h 269 2 0) 269 3 FP.dconst0) 269 4 0) 269 5 0) := by
        have s1 : Sh (dnSL h 269 2 0) := c.1
        have s2 : Sh (dnSD (dnSL h 269 2 0) 269 3 FP.dconst0) := c.1
        have s3 : Sh (dnSI (dnSD (dnSL h 269 2 0) 269 3 FP.dconst0) 269 4 0) := c.1
        simp only [fX10_begin, dnB_eval, p_269_2 c.1, p_269_3 s1, p_269_4 s2, p_269_5 s3, dnP]
      have c1 : CS h0 sp0 [] (dnSI (dnSI (dnSD (dnSL h 269 2 0) 269 3 FP.dconst0) 269 4 0) 269 5 0) A := eqc269 (eqc269 (eqc269 (eqc269 c (eqc_SL (fun hc => hc rfl))) (eqc_SD (fun hc => hc rfl))) (eqc_SI (fun hc => hc rfl))) (eqc_SI (fun hc => hc rfl))
      have i1 : Lc op a (dnSI (dnSI (dnSD (dnSL h 269 2 0) 269 3 FP.dconst0) 269 4 0) 269 5 0) [] := by
        refine ⟨fun _ => ?_, fun _ => ?_, ?_, ?_⟩
        · show _ = (0 : Int64)
          simp [dnSI, dnSL, dnSD, dnUp]
        · show _ = FP.dconst0
          simp [dnSI, dnSL, dnSD, dnUp]
        · show _ = (0 : Int32)
          simp [dnSI, dnSL, dnSD, dnUp]
        · show _ = (0 : Int32)
          simp [dnSI, dnSL, dnSD, dnUp]
      generalize dnSI (dnSI (dnSD (dnSL h 269 2 0) 269 3 FP.dconst0) 269 4 0) 269 5 0 = h1 at b0 c1 i1
      obtain ⟨h2, b1, c2, i2⟩ := foldAll_c w hB hB2 hop ha way line hG hm e1 c1 i1
      have c3 := c2.told (fv op a (fd A G a way line (12 * m)).1)
      have c4 := c3.passed (nI (fd A G a way line (12 * m)).2)
      refine ⟨_, ?_, c4⟩
      have e5 : (dnSI (dnSL h2 258 0 (fv op a (fd A G a way line (12 * m)).1)) 258 2 (nI (fd A G a way line (12 * m)).2)).2.1 269 5 = nI (fd A G a way line (12 * m)).1.length := by
        rw [← i2.2.2.2]
        simp [dnSI, dnSL, dnSD, dnUp]
      by_cases q4 : op = 4
      · have y4 := not_not_intro (o4.mpr q4)
        have ev : fv op a (fd A G a way line (12 * m)).1 = (nI (nzL a (fd A G a way line (12 * m)).1)).toInt64 := if_pos q4
        rw [ev] at c3 c4 e5 ⊢
        simp only [fX10_foldCells_j45, fX10_foldCells_j197, z0, if_true, dnB_eval, v_269 c.1, b0, b1, g_269_1 c2.1, y4, if_false, g_269_4 c2.1, i2.2.2.1, p_258_0 c2.1, g_269_1 c3.1, p_258_2 c3.1, g_269_5 c4.1, e5, dnP]
      · have y4 := mt o4.mp q4
        by_cases q : a = 7
        · have y7 := not_not_intro (a7.mpr q)
          have ev : fv op a (fd A G a way line (12 * m)).1 = FP.d2l (FP.dmul 4620693217682128896 (fR op (fd A G a way line (12 * m)).1)) := by unfold fv; rw [if_neg q4, if_pos q]
          have c8 : ok64 (FP.dmul 4620693217682128896 (fR op (fd A G a way line (12 * m)).1)) := fm.mul8 (by omega)
          rw [ev] at c3 c4 e5 ⊢
          simp only [fX10_foldCells_j45, fX10_foldCells_j197, z0, if_true, dnB_eval, v_269 c.1, b0, b1, g_269_1 c2.1, y4, not_false_eq_true, y7, if_false, g_269_3 c2.1, i2.2.1 q, fX12_codeOfReal, n64_ok c8, p_258_0 c2.1, g_269_1 c3.1, p_258_2 c3.1, g_269_5 c4.1, e5, dnP]
        · have y7 := mt a7.mp q
          have ev : fv op a (fd A G a way line (12 * m)).1 = fW op a (fd A G a way line (12 * m)).1 := by unfold fv; rw [if_neg q4, if_neg q]
          rw [ev] at c3 c4 e5 ⊢
          simp only [fX10_foldCells_j45, fX10_foldCells_j197, z0, if_true, dnB_eval, v_269 c.1, b0, b1, g_269_1 c2.1, y4, not_false_eq_true, y7, g_269_2 c2.1, i2.1 q, p_258_0 c2.1, g_269_1 c3.1, p_258_2 c3.1, g_269_5 c4.1, e5, dnP]
    · have r1 := set19 r' 0
      have r2 := set20 r1 0
      have r3 := set21 r2 FP.dconst0
      have i1 : Lr op a (dnSD (dnSL (dnSI k 289 19 0) 289 20 0) 289 21 FP.dconst0) [] := by
        refine ⟨?_, fun _ => ?_, fun _ _ => ?_, fun _ _ => .inl ?_, fun _ _ => ?_⟩
        · show _ = (0 : Int32)
          simp [dnSI, dnSL, dnSD, dnUp]
        · show _ = (0 : Int64)
          simp [dnSI, dnSL, dnSD, dnUp]
        · show _ = (0 : Int64)
          simp [dnSI, dnSL, dnSD, dnUp]
        · show FP.dconst0 = _
          simp [dnSI, dnSL, dnSD, dnUp]
        · show _ = FP.dconst0
          simp [dnSI, dnSL, dnSD, dnUp]
      obtain ⟨h2, b1, c2, i2⟩ := foldAll_r w hB hB2 hop ha h37 way line hG hm e1 r3 i1
      have c3 := c2.passed (nI (fd A G a way line (12 * m)).2)
      obtain ⟨t1, t2⟩ := tells_A c3 (fv op a (fd A G a way line (12 * m)).1) (nI (fd A G a way line (12 * m)).1.length)
      refine ⟨_, ?_, t2⟩
      have e19 : (dnSI h2 289 3 (nI (fd A G a way line (12 * m)).2)).2.1 289 19 = nI (fd A G a way line (12 * m)).1.length := by
        rw [← i2.1]
        simp [dnSI, dnSL, dnSD, dnUp]
      have e20 : (dnSI h2 289 3 (nI (fd A G a way line (12 * m)).2)).2.2.1 289 20 = h2.2.2.1 289 20 := rfl
      have e21 : (dnSI h2 289 3 (nI (fd A G a way line (12 * m)).2)).2.2.2.1 289 21 = h2.2.2.2.1 289 21 := rfl
      by_cases q4 : op = 4
      · have ev : h2.2.2.1 289 20 = fv op a (fd A G a way line (12 * m)).1 := (i2.2.1 q4).trans (if_pos q4).symm
        by_cases q : a = 7
        · have y7 := not_not_intro (a7.mpr q)
          have y4 := o4.mpr q4
          have y4 : (nI op = 4) = True := eq_true y4
          simp only [fX13_foldAnswer_j102, fX13_foldAnswer_j253, fX13_foldAnswer_j257, if_true, dnB_eval, p_289_19 r'.1, p_289_20 r1.1, p_289_21 r2.1, b1, p_289_3 c2.1, y7, if_false]
          rw [if_pos (o4.mpr q4)]
          simp only [dnB_eval, g_289_20 c3.1, e20, ev, g_289_19 c3.1, e19, v_289 c3.1, t1, dnP]
        · have y7 := mt a7.mp q
          simp only [fX13_foldAnswer_j102, fX13_foldAnswer_j253, fX13_foldAnswer_j257, if_true, dnB_eval, p_289_19 r'.1, p_289_20 r1.1, p_289_21 r2.1, b1, p_289_3 c2.1, y7, not_false_eq_true, g_289_20 c3.1, e20, ev, g_289_19 c3.1, e19, v_289 c3.1, t1, dnP]
      · have y4 := mt o4.mp q4
        by_cases q : a = 7
        · have y7 := not_not_intro (a7.mpr q)
          have ev : fv op a (fd A G a way line (12 * m)).1 = FP.d2l (FP.dmul 4620693217682128896 (h2.2.2.2.1 289 21)) := by
            unfold fv
            rw [if_neg q4, if_pos q]
            by_cases q0 : op = 0
            · exact (i2.2.2.2.1 q0 q).code
            · rw [i2.2.2.2.2 (by omega) q]
          have c8 : ok64 (FP.dmul 4620693217682128896 (h2.2.2.2.1 289 21)) := by
            by_cases q0 : op = 0
            · exact ((i2.2.2.2.1 q0 q).mg fm (by omega)).mul8 (by omega)
            · rw [i2.2.2.2.2 (by omega) q]
              exact fm.mul8 (by omega)
          rw [ev] at t1 ⊢
          simp only [fX13_foldAnswer_j102, fX13_foldAnswer_j257, if_true, dnB_eval, p_289_19 r'.1, p_289_20 r1.1, p_289_21 r2.1, b1, p_289_3 c2.1, y7, if_false, y4, g_289_21 c3.1, e21, n64_ok c8, g_289_19 c3.1, e19, v_289 c3.1, t1, dnP]
        · have y7 := mt a7.mp q
          have ev : h2.2.2.1 289 20 = fv op a (fd A G a way line (12 * m)).1 := by
            rw [i2.2.2.1 q4 q]
            unfold fv
            rw [if_neg q4, if_neg q]
          simp only [fX13_foldAnswer_j102, fX13_foldAnswer_j253, fX13_foldAnswer_j257, if_true, dnB_eval, p_289_19 r'.1, p_289_20 r1.1, p_289_21 r2.1, b1, p_289_3 c2.1, y7, not_false_eq_true, g_289_20 c3.1, e20, ev, g_289_19 c3.1, e19, v_289 c3.1, t1, dnP]
  by_cases hw0 : way = 0
  · have nw : ¬ ¬ way = 0 := not_not_intro hw0
    rcases lookP w (nI G) line with ⟨f, f0, -, f2, f3⟩ | ⟨G', q', m, hG', hq', hm, eg, hline, e1, -, ho, k1, k2⟩
    · obtain ⟨n1, n2⟩ := neg_fault f0
      refine step_ro f w (fun h0 h c => ?_) (fun q0 k r => dr k _ ?_)
      · simp only [fX10_foldCells, fX10_foldCells_j45, hg, c_fold, hf, g_269_0 c.1, sv (st1 c.1), (f2 h0 _ _ h c).1, n2, dnB_eval, c_isGrid, c_isKind, c_isSort, c_isPlain, r_isGrid, r_isKind, r_isSort, r_isPlain, r_in, dnP, Bool.false_eq_true, if_false, if_true]
        rw [if_neg nw]
        simp only [fX10_foldCells_j45, g_269_0 c.1, sv (st1 c.1), (f2 h0 _ _ h c).1, n2, dnB_eval, c_isGrid, c_isKind, c_isSort, c_isPlain, r_isGrid, r_isKind, r_isSort, r_isPlain, r_in, dnP, Bool.false_eq_true, if_false, if_true]
      · simp only [fX13_foldAnswer_j74]
        rw [if_neg nw]
        simp only [fX13_foldAnswer_j102, v_289 r.1, (f3 hg q0 _ k r).1, n1, dnB_eval, c_isGrid, c_isKind, c_isSort, c_isPlain, r_isGrid, r_isKind, r_isSort, r_isPlain, r_in, dnP, Bool.false_eq_true, if_false, if_true]
    · have eG : G' = G := ((nI_eq (by omega) (by omega)).mp eg).symm
      subst eG
      obtain ⟨m1, m2⟩ := main m hm e1
      refine ⟨nI (fd A G' a way line (12 * m)).1.length, setN A (fv op a (fd A G' a way line (12 * m)).1, A.2.2.2.2.1, nI (fd A G' a way line (12 * m)).2), w.note, fun h0 h c => ?_, fun q0 k r' => ?_⟩
      · obtain ⟨h2, x1, x2⟩ := m1 h0 h c
        refine ⟨h2, ?_, x2⟩
        rw [← x1]
        simp only [fX10_foldCells, hg, c_fold, hf, dnB_eval, c_isGrid, c_isKind, c_isSort, c_isPlain, r_isGrid, r_isKind, r_isSort, r_isPlain, r_in, dnP, Bool.false_eq_true, if_false, if_true]
        rw [if_neg nw]
        simp only [g_269_0 c.1, sv (st1 c.1), (k1 h0 _ _ h c).1, dnB_eval, c_isGrid, c_isKind, c_isSort, c_isPlain, r_isGrid, r_isKind, r_isSort, r_isPlain, r_in, dnP, Bool.false_eq_true, if_false, if_true]
      · obtain ⟨h2, x1, x2⟩ := m2 q0 k r'
        refine ⟨h2, _, dr k _ ?_, x2⟩
        rw [← x1]
        simp only [fX13_foldAnswer_j74]
        rw [if_neg nw]
        simp only [v_289 r'.1, (k2 q0 _ k r').1, dnB_eval, c_isGrid, c_isKind, c_isSort, c_isPlain, r_isGrid, r_isKind, r_isSort, r_isPlain, r_in, dnP, Bool.false_eq_true, if_false, if_true]
  · by_cases hneg : A.1 G < 0
    · have hn2 : ¬ 0 ≤ A.1 G := Int32.not_le.mpr hneg
      refine step_ro (-2) w (fun h0 h c => ?_) (fun q0 k r => dr k _ ?_)
      · simp only [fX10_foldCells, fX10_foldCells_j45, hg, c_fold, hf, hw0, not_false_eq_true, g_269_0 c.1, sv (st1 c.1), gridFault_c c.1 hG, c.pl hG, hneg, show ¬ (0 : Int32) ≤ -2 by decide, dnB_eval, c_isGrid, c_isKind, c_isSort, c_isPlain, r_isGrid, r_isKind, r_isSort, r_isPlain, r_in, dnP, Bool.false_eq_true, if_false, if_true]
      · simp only [fX13_foldAnswer_j74, fX13_foldAnswer_j102, hw0, not_false_eq_true, g_289_4 r.1, plr_A r hG, hn2, show ¬ (-2 : Int32) = 0 by decide, dnB_eval, c_isGrid, c_isKind, c_isSort, c_isPlain, r_isGrid, r_isKind, r_isSort, r_isPlain, r_in, dnP, Bool.false_eq_true, if_false, if_true]
    · have hn2 : 0 ≤ A.1 G := Int32.not_lt.mp hneg
      obtain ⟨m, hm, e1⟩ : ∃ m : Nat, m ≤ 6 ∧ A.1 G = nI m := by
        rcases w.1 G hG with e | e
        · rw [e] at hneg
          exact absurd (by decide) hneg
        · exact e
      obtain ⟨m1, m2⟩ := main m hm e1
      refine ⟨nI (fd A G a way line (12 * m)).1.length, setN A (fv op a (fd A G a way line (12 * m)).1, A.2.2.2.2.1, nI (fd A G a way line (12 * m)).2), w.note, fun h0 h c => ?_, fun q0 k r' => ?_⟩
      · obtain ⟨h2, x1, x2⟩ := m1 h0 h c
        refine ⟨h2, ?_, x2⟩
        rw [← x1]
        simp only [fX10_foldCells, hg, c_fold, hf, hw0, not_false_eq_true, g_269_0 c.1, sv (st1 c.1), gridFault_c c.1 hG, c.pl hG, hneg, dnB_eval, c_isGrid, c_isKind, c_isSort, c_isPlain, r_isGrid, r_isKind, r_isSort, r_isPlain, r_in, dnP, Bool.false_eq_true, if_false, if_true]
      · obtain ⟨h2, x1, x2⟩ := m2 q0 k r'
        refine ⟨h2, _, dr k _ ?_, x2⟩
        rw [← x1]
        simp only [fX13_foldAnswer_j74, hw0, not_false_eq_true, g_289_4 r'.1, plr_A r' hG, hn2, dnB_eval, c_isGrid, c_isKind, c_isSort, c_isPlain, r_isGrid, r_isKind, r_isSort, r_isPlain, r_in, dnP, Bool.false_eq_true, if_false, if_true]

theorem call_fold {B : Nat} (hB : 16 ≤ B) (hB2 : B < 2 ^ 24) (g way line op s : Int32) : Call B B (fX12_fold (some 0) g way line op s) (fX13_fold (some 289) g way line op s) :=
  callA (Nat.le_refl _) (fun h v h1 s1 s2 e => by simp only [fX12_fold, dnB_eval, g_0_6 s1, v_269 s1, e, v_0 s2, tally_c s2, dnP]) (fun h v h1 s1 s2 e => by simp only [fX13_fold, dnB_eval, v_289 s1, e, v_289 s2, said_r s2, dnP]) (step_fold hB hB2 g way line op s)
