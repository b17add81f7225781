/-! ABS 1: the state of class and reference in one set of words -/
abbrev Cel : Type := Nat × Int64 × UInt64
abbrev Rw : Type := Nat × Nat × (Nat → Cel)
abbrev Ab : Type := (Nat → Int32) × (Nat → Int32) × (Nat → Rw) × (Int64 × Int32 × Int32)
def celOk (B kd : Nat) (c : Cel) : Prop := c.1 < 12 ∧ tk kd c.1 = true ∧ (kd < 8 → c.1 = kd) ∧ valOk B c.1 c.2.1 c.2.2
def rwOk (B : Nat) (R : Rw) : Prop := R.1 < 12 ∧ R.2.1 ≤ 12 ∧ ∀ i, i < 12 → celOk B R.1 (R.2.2 i)
def hOk (x : Int32) : Prop := x = -14 ∨ x = -12 ∨ x = -13 ∨ ∃ r : Nat, r < 31 ∧ x = nI r
def live (X : List Nat) (A : Ab) (n : Nat) : Prop := n ∈ X ∨ ∃ k, k < 24 ∧ A.2.1 k = nI n
def Wf (B : Nat) (X : List Nat) (A : Ab) : Prop := (∀ g, g < 4 → plOk (A.1 g)) ∧ (∀ k, k < 24 → hOk (A.2.1 k)) ∧ (∀ g, g < 4 → ∀ p, p < 6 → A.1 g ≤ nI p → A.2.1 (6 * g + p) = -14) ∧ ∀ n, n < 31 → live X A n → rwOk B (A.2.2.1 n)
def rwIs (V : Vw) (n : Nat) (R : Rw) : Prop := V.2.2.1 n = nI R.1 ∧ V.2.2.2.1 n = nI R.2.1 ∧ ∀ i, i < 12 → V.2.2.2.2.1 n i = nI (R.2.2 i).1 ∧ V.2.2.2.2.2.1 n i = (R.2.2 i).2.1 ∧ V.2.2.2.2.2.2 n i = (R.2.2 i).2.2
def VC (X : List Nat) (V : Vw) (A : Ab) : Prop := (∀ g, g < 4 → V.1 g = A.1 g) ∧ (∀ k, k < 24 → V.2.1 k = A.2.1 k) ∧ ∀ n, n < 31 → live X A n → rwIs V n (A.2.2.1 n)
def rc (c : Int32) : Int32 := if c = -14 then -1 else if c = -12 then -2 else if c = -13 then -3 else c
def VR (X : List Nat) (V : Vw) (A : Ab) : Prop := (∀ g, g < 4 → V.1 g = A.1 g) ∧ (∀ k, k < 24 → V.2.1 k = rc (A.2.1 k)) ∧ ∀ n, n < 31 → live X A n → rwIs V n (A.2.2.1 n)
def setM (A : Ab) (g : Nat) (v : Int32) : Ab := (fun j => if j = g then v else A.1 j, A.2)
def setH (A : Ab) (k : Nat) (v : Int32) : Ab := (A.1, fun j => if j = k then v else A.2.1 j, A.2.2)
def setR (A : Ab) (n : Nat) (R : Rw) : Ab := (A.1, A.2.1, fun m => if m = n then R else A.2.2.1 m, A.2.2.2)
def setN (A : Ab) (N : Int64 × Int32 × Int32) : Ab := (A.1, A.2.1, A.2.2.1, N)
def setC (R : Rw) (i : Nat) (c : Cel) : Rw := (R.1, R.2.1, fun j => if j = i then c else R.2.2 j)
def newC (kd : Nat) : Cel := (if kd < 8 then kd else 11, 0, FP.dconst0)
def newR (kd ln : Nat) : Rw := (kd, ln, fun _ => newC kd)
def cvt (kd : Nat) (c : Cel) : Cel := (cvS kd c.1, cvNN kd c.2.1, cvR kd c.1 c.2.1 c.2.2)
def mkC (s : Nat) (v : Int64) : Cel := (s, mkN s v, mkD s v)
theorem rc_nI {r : Nat} (hr : r < 31) : rc (nI r) = nI r := (by decide +kernel : ∀ r, r < 31 → rc (nI r) = nI r) r hr
theorem hOk.hR {x : Int32} (h : hOk x) : hR (rc x) x := by
  rcases h with rfl | rfl | rfl | ⟨r, hr, rfl⟩
  · exact .inl ⟨rfl, rfl⟩
  · exact .inr (.inl ⟨rfl, rfl⟩)
  · exact .inr (.inr (.inl ⟨rfl, rfl⟩))
  · exact .inr (.inr (.inr ⟨r, hr, rc_nI hr, rfl⟩))
theorem hR.ok {x c : Int32} (h : hR x c) : hOk c ∧ x = rc c := by
  rcases h with ⟨rfl, rfl⟩ | ⟨rfl, rfl⟩ | ⟨rfl, rfl⟩ | ⟨r, hr, rfl, rfl⟩
  · exact ⟨.inl rfl, rfl⟩
  · exact ⟨.inr (.inl rfl), rfl⟩
  · exact ⟨.inr (.inr (.inl rfl)), rfl⟩
  · exact ⟨.inr (.inr (.inr ⟨r, hr, rfl⟩)), (rc_nI hr).symm⟩
def abOf (c : Vw) (N : Int64 × Int32 × Int32) : Ab := (c.1, c.2.1, fun n => ((c.2.2.1 n).toNatClampNeg, (c.2.2.2.1 n).toNatClampNeg, fun i => ((c.2.2.2.2.1 n i).toNatClampNeg, c.2.2.2.2.2.1 n i, c.2.2.2.2.2.2 n i)), N)
theorem rel_row {B : Nat} {c r : Vw} {n : Nat} {N : Int64 × Int32 × Int32} (h : rowRel B c r n) : rwOk B ((abOf c N).2.2.1 n) ∧ rwIs c n ((abOf c N).2.2.1 n) ∧ rwIs r n ((abOf c N).2.2.1 n) := by
  obtain ⟨kd, ln, h1, h2, h3, h4, h5, h6, h7⟩ := h
  have e1 : ((abOf c N).2.2.1 n).1 = kd := by
    show (c.2.2.1 n).toNatClampNeg = kd
    rw [h3, nI_clamp (by omega)]
  have e2 : ((abOf c N).2.2.1 n).2.1 = ln := by
    show (c.2.2.2.1 n).toNatClampNeg = ln
    rw [h4, nI_clamp (by omega)]
  have e3 : ∀ i, i < 12 → c.2.2.2.2.1 n i = nI (((abOf c N).2.2.1 n).2.2 i).1 ∧ celOk B kd (((abOf c N).2.2.1 n).2.2 i) := fun i hi => by
    obtain ⟨⟨s, k1, k2, k3, k4, k5⟩, -⟩ := h7 i hi
    have e : (((abOf c N).2.2.1 n).2.2 i).1 = s := by
      show (c.2.2.2.2.1 n i).toNatClampNeg = s
      rw [k2, nI_clamp (by omega)]
    rw [e]
    refine ⟨k2, ?_⟩
    unfold celOk
    rw [e]
    exact ⟨k1, k3, k4, k5⟩
  refine ⟨⟨?_, ?_, ?_⟩, ⟨?_, ?_, ?_⟩, ⟨?_, ?_, ?_⟩⟩
  · rw [e1]; exact h1
  · rw [e2]; exact h2
  · rw [e1]; exact fun i hi => (e3 i hi).2
  · rw [e1]; exact h3
  · rw [e2]; exact h4
  · exact fun i hi => ⟨(e3 i hi).1, rfl, rfl⟩
  · rw [e1]; exact h5
  · rw [e2]; exact h6
  · exact fun i hi => ⟨(h7 i hi).2.1.trans (e3 i hi).1, (h7 i hi).2.2.1, (h7 i hi).2.2.2⟩
theorem st_abs {B : Nat} {c r : Vw} (N : Int64 × Int32 × Int32) (h : stRel B c r) : Wf B [] (abOf c N) ∧ VC [] c (abOf c N) ∧ VR [] r (abOf c N) := by
  obtain ⟨h1, h2, h3, h4⟩ := h
  have key : ∀ n, n < 31 → live [] (abOf c N) n → rowRel B c r n := fun n hn hl => by
    rcases hl with hl | ⟨k, hk, e⟩
    · cases hl
    · exact h4 k hk n hn e
  refine ⟨⟨fun g hg => (h1 g hg).1, fun k hk => (h2 k hk).ok.1, h3, fun n hn hl => (rel_row (key n hn hl)).1⟩, ⟨fun _ _ => rfl, fun _ _ => rfl, fun n hn hl => (rel_row (key n hn hl)).2.1⟩, ⟨fun g hg => (h1 g hg).2, fun k hk => (h2 k hk).ok.2, fun n hn hl => (rel_row (key n hn hl)).2.2⟩⟩
theorem abs_st {B : Nat} {c r : Vw} {A : Ab} (w : Wf B [] A) (hc : VC [] c A) (hr : VR [] r A) : stRel B c r := by
  obtain ⟨w1, w2, w3, w4⟩ := w
  obtain ⟨c1, c2, c3⟩ := hc
  obtain ⟨r1, r2, r3⟩ := hr
  refine ⟨fun g hg => ⟨?_, ?_⟩, fun k hk => ?_, fun g hg p hp h => ?_, fun k hk n hn h => ?_⟩
  · rw [c1 g hg]; exact w1 g hg
  · rw [c1 g hg, r1 g hg]
  · rw [c2 k hk, r2 k hk]; exact (w2 k hk).hR
  · rw [c1 g hg] at h
    rw [c2 _ (by omega)]
    exact w3 g hg p hp h
  · rw [c2 k hk] at h
    have hl : live [] A n := .inr ⟨k, hk, h⟩
    obtain ⟨o1, o2, o3⟩ := w4 n hn hl
    obtain ⟨a1, a2, a3⟩ := c3 n hn hl
    obtain ⟨b1, b2, b3⟩ := r3 n hn hl
    refine ⟨_, _, o1, o2, a1, a2, b1, b2, fun i hi => ⟨?_, ?_, ?_, ?_⟩⟩
    · obtain ⟨t1, t2, t3, t4⟩ := o3 i hi
      exact ⟨_, t1, (a3 i hi).1, t2, t3, by rw [(a3 i hi).2.1, (a3 i hi).2.2]; exact t4⟩
    · rw [(a3 i hi).1, (b3 i hi).1]
    · rw [(a3 i hi).2.1, (b3 i hi).2.1]
    · rw [(a3 i hi).2.2, (b3 i hi).2.2]
/-- a row object, in those words -/
def RwH (h : dnH) (a : Nat) (R : Rw) : Prop := h.2.1 a 1 = nI R.1 ∧ h.2.1 a 2 = nI R.2.1 ∧ ∀ i, i < 12 → h.2.1 (a + 1) i = nI (R.2.2 i).1 ∧ h.2.2.1 (a + 2) i = (R.2.2 i).2.1 ∧ h.2.2.2.1 (a + 3) i = (R.2.2 i).2.2
def EqR (a : Nat) (h h2 : dnH) : Prop := Eqc (fun x => x < a ∨ a + 4 ≤ x) h h2 ∧ h2.2.1 a 0 = h.2.1 a 0
theorem EqR.rf {a : Nat} {h : dnH} : EqR a h h := ⟨Eqc.rf, rfl⟩
theorem EqR.tr {a : Nat} {h h2 h3 : dnH} (x : EqR a h h2) (y : EqR a h2 h3) : EqR a h h3 := ⟨x.1.tr y.1, y.2.trans x.2⟩
theorem EqR.row {a b : Nat} {h h2 : dnH} {R : Rw} (x : EqR a h h2) (hb : b + 4 ≤ a ∨ a + 4 ≤ b) (w : RwH h b R) : RwH h2 b R := by
  obtain ⟨w1, w2, w3⟩ := w
  refine ⟨?_, ?_, fun i hi => ⟨?_, ?_, ?_⟩⟩
  · rw [(x.1.2.2 b (by omega)).1]; exact w1
  · rw [(x.1.2.2 b (by omega)).1]; exact w2
  · rw [(x.1.2.2 (b + 1) (by omega)).1]; exact (w3 i hi).1
  · rw [(x.1.2.2 (b + 2) (by omega)).2.1]; exact (w3 i hi).2.1
  · rw [(x.1.2.2 (b + 3) (by omega)).2.2]; exact (w3 i hi).2.2
theorem Eqc.rowAt {P : Nat → Prop} {h h2 : dnH} {a : Nat} (e : Eqc P h h2) (w : RowAt h a) : RowAt h2 a := by
  unfold RowAt
  rw [e.1, e.2.1]
  exact w
theorem begin_A {h : dnH} {a kd n : Nat} (ha : RowAt h a) (hkd : kd < 12) : ∃ h2, fX5_begin (some a) (nI kd) (nI n) h = some ((), h2) ∧ EqR a h h2 ∧ RwH h2 a (newR kd n) := by
  refine ⟨rowBeg h a kd (nI n), begin_c ha hkd _, ⟨eqc_rowBeg (by omega) (by omega) (by omega) (by omega), ?_⟩, ?_, ?_, fun i hi => ⟨?_, ?_, ?_⟩⟩
  · simp [rowBeg, flI, flL, flD, dnSI, dnUp, dnUpA]
  · simp [rowBeg, flI, flL, flD, dnSI, dnUp, dnUpA, newR]
  · simp [rowBeg, flI, flL, flD, dnSI, dnUp, dnUpA, newR]
  · simp [rowBeg, flI, flL, flD, dnSI, dnUp, dnUpA, newR, newC, hi]
  · exact rb_L hi
  · exact rb_D hi
theorem wr_A {h : dnH} {a i : Nat} {R : Rw} {c : Cel} (hR : RwH h a R) : EqR a h (wr h a i (nI c.1) c.2.1 c.2.2) ∧ RwH (wr h a i (nI c.1) c.2.1 c.2.2) a (setC R i c) := by
  refine ⟨⟨eqc_wr (by omega) (by omega) (by omega), ?_⟩, ?_, ?_, fun j hj => ?_⟩
  · simp [wr, dnSI, dnSL, dnSD, dnUp]
  · have := hR.1
    simp [wr, dnSI, dnSL, dnSD, dnUp, setC, this]
  · have := hR.2.1
    simp [wr, dnSI, dnSL, dnSD, dnUp, setC, this]
  · obtain ⟨h1, h2, h3⟩ := hR.2.2 j hj
    by_cases c : j = i
    · subst c
      simp [wr, dnSI, dnSL, dnSD, dnUp, setC]
    · simp [wr, dnSI, dnSL, dnSD, dnUp, setC, c, h1, h2, h3]
theorem accept_A {B : Nat} {h : dnH} {a b i j : Nat} {R Q : Rw} (ha : RowAt h a) (hb : RowAt h b) (hR : RwH h a R) (hQ : RwH h b Q) (hi : i < 12) (hj : j < 12) (hkd : R.1 < 12) (w : celOk B R.1 (R.2.2 i)) (hs : (Q.2.2 j).1 < 12) (wq : valOk B (Q.2.2 j).1 (Q.2.2 j).2.1 (Q.2.2 j).2.2) (hal : a = b → i = j → R.1 < 8 → (Q.2.2 j).1 = R.1) :
    ∃ h2, fX5_accept (some a) (nI i) (some b) (nI j) h = some (tk R.1 (Q.2.2 j).1, h2) ∧ EqR a h h2 ∧ RwH h2 a (if tk R.1 (Q.2.2 j).1 = true then setC R i (cvt R.1 (Q.2.2 j)) else R) := by
  obtain ⟨q1, q2, q3⟩ := hQ.2.2 j hj
  obtain ⟨r1, r2, r3⟩ := hR.2.2 i hi
  cases ht : tk R.1 (Q.2.2 j).1
  · refine ⟨h, ?_, EqR.rf, hR⟩
    have f1 := dnIn_nI hj (by decide)
    have f2 : (nI j).toNatClampNeg = j := nI_clamp (by omega)
    simp only [fX5_accept, dnB_eval, rg_3 hb, ra_1 hb, f1, f2, if_true, q1, rg_i ha, hR.1, takesC hkd hs, dnP, ht, Bool.false_eq_true, if_false]
  · have hfp := fpOk_of (kd := R.1) hs ht wq
    have key := accept_c ha hb hi hj hR.1 hkd q1 hs hal (by rw [q2, q3]; exact hfp)
    rw [ht, if_pos rfl, q2, q3, r2] at key
    have e : cvN R.1 (R.2.2 i).2.1 (Q.2.2 j).2.1 = (cvt R.1 (Q.2.2 j)).2.1 := by
      show _ = cvNN _ _
      unfold cvN cvNN
      by_cases c : isRlN R.1 = true
      · rw [if_pos c, if_pos c]
        have h8 : R.1 < 8 := by
          have : R.1 = 6 ∨ R.1 = 7 := by simpa [isRlN] using c
          omega
        exact w.2.2.2.2.2.2.1 (by rw [w.2.2.1 h8]; exact c)
      · rw [if_neg c, if_neg c]
    rw [e] at key
    obtain ⟨k1, k2⟩ := wr_A (i := i) (c := cvt R.1 (Q.2.2 j)) hR
    exact ⟨_, key, k1, by rw [if_pos rfl]; exact k2⟩
theorem celOk_cvt {B kd : Nat} {c : Cel} (hB : 16 ≤ B) (hkd : kd < 12) (hs : c.1 < 12) (ht : tk kd c.1 = true) (h : valOk B c.1 c.2.1 c.2.2) : celOk B kd (cvt kd c) := by
  obtain ⟨a1, a2, a3, a4⟩ := valOk_cv hB hkd hs ht h
  exact ⟨a4, a2, a3, a1⟩
theorem celOk_new {B kd : Nat} (hB : 16 ≤ B) (hkd : kd < 12) : celOk B kd (newC kd) := by
  obtain ⟨s, h1, h2, h3, h4, h5⟩ := cellOk_new hkd hB
  obtain ⟨g1, g2, g3⟩ := (by decide +kernel : ∀ k, k < 12 → (if k < 8 then k else 11) < 12 ∧ tk k (if k < 8 then k else 11) = true ∧ (k < 8 → (if k < 8 then k else 11) = k)) kd hkd
  have e : s = if kd < 8 then kd else 11 := ((nI_eq (by omega) (by omega)).mp h2).symm
  subst e
  exact ⟨g1, g2, g3, h5⟩
theorem rwOk_new {B kd n : Nat} (hB : 16 ≤ B) (hkd : kd < 12) (hn : n ≤ 12) : rwOk B (newR kd n) := ⟨hkd, hn, fun _ _ => celOk_new hB hkd⟩
theorem rwOk_set {B i : Nat} {R : Rw} {c : Cel} (h : rwOk B R) (hc : celOk B R.1 c) : rwOk B (setC R i c) := ⟨h.1, h.2.1, fun j hj => by
  show celOk B R.1 (if j = i then c else R.2.2 j)
  split
  · exact hc
  · exact h.2.2 j hj⟩
theorem valOk_mkC {B s : Nat} (hB : 16 ≤ B) (hs : s < 12) (v : Int64) : valOk B (mkC s v).1 (mkC s v).2.1 (mkC s v).2.2 := (valOk_mk hs v).mono hB
theorem become_A {h : dnH} {a s : Nat} (ha : RowAt h a) (hs : s < 12) (v : Int64) : ∃ h2, fX5_become (some a) (nI s) v h = some ((), h2) ∧ EqR a h h2 ∧ RwH h2 a (setC (newR 8 1) 0 (mkC s v)) := by
  obtain ⟨h2, e1, e2, e3⟩ := begin_A (n := 1) ha (show 8 < 12 by decide)
  have e : h2 = rowBeg h a 8 1 := by
    have := begin_c ha (kd := 8) (by decide) (nI 1)
    rw [e1] at this
    exact (Prod.mk.inj (Option.some.inj this)).2
  obtain ⟨k1, k2⟩ := wr_A (i := 0) (c := mkC s v) e3
  refine ⟨_, become_c ha hs (mkOk_all s v), ?_, ?_⟩
  · rw [← e]; exact e2.tr k1
  · rw [← e]; exact k2
