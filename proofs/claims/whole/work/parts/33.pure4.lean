/-! PURE 4: a row's own functions -/
theorem dnB_eval {α β : Type} {x : dnM α} {f : α → dnM β} {h : dnH} : dnB x f h = (match x h with | some q => f q.1 q.2 | none => none) := by
  unfold dnB
  cases x h with
  | none => rfl
  | some q => rfl
theorem dnB_P {α β : Type} {a : α} {f : α → dnM β} : dnB (dnP a) f = f a := rfl
def wr (h : dnH) (a i : Nat) (s : Int32) (n : Int64) (d : UInt64) : dnH := dnSD (dnSL (dnSI h (a + 1) i s) (a + 2) i n) (a + 3) i d
def isRlN (s : Nat) : Bool := decide (s = 6 ∨ s = 7)
theorem isRl_nI {s : Nat} (h : s < 12) : isRl (nI s) = isRlN s := (by decide +kernel : ∀ s, s < 12 → isRl (nI s) = isRlN s) s h
theorem doubleAt_c {h : dnH} {a i s : Nat} (ha : RowAt h a) (hi : i < 12) (hs : h.2.1 (a + 1) i = nI s) (hs2 : s < 12) : fX5_doubleAt (some a) (nI i) h = some (if isRlN s then h.2.2.2.1 (a + 3) i else FP.l2d (h.2.2.1 (a + 2) i), h) := by
  have e1 := dnIn_nI hi (by decide)
  have e2 : (nI i).toNatClampNeg = i := nI_clamp (by omega)
  simp only [fX5_doubleAt, dnB_eval, rg_3 ha, ra_1 ha, e1, e2, if_true, hs, c_isReal, isRl_nI hs2, dnP]
  cases isRlN s
  · simp only [Bool.false_eq_true, if_false, dnB_eval, rg_4 ha, ra_2 ha, e1, e2, if_true, dnP]
  · simp only [if_true, dnB_eval, rg_5 ha, ra_3 ha, e1, e2, dnP]
def ok64 (x : UInt64) : Prop := x &&& 0x7fffffffffffffff ≤ 0x7ff0000000000000
def ok32 (x : UInt32) : Prop := x &&& 0x7fffffff ≤ 0x7f800000
theorem n64_ok {x : UInt64} (h : ok64 x) : dnN64 x = dnP x := by funext y; exact if_pos h
theorem n32_ok {x : UInt32} (h : ok32 x) : dnN32 x = dnP x := by funext y; exact if_pos h
theorem floatAt_c {h : dnH} {a i s : Nat} (ha : RowAt h a) (hi : i < 12) (hs : h.2.1 (a + 1) i = nI s) (hs2 : s < 12) (hok : isRlN s = true → ok32 (FP.d2f (h.2.2.2.1 (a + 3) i))) : fX5_floatAt (some a) (nI i) h = some (if isRlN s then FP.d2f (h.2.2.2.1 (a + 3) i) else FP.l2f (h.2.2.1 (a + 2) i), h) := by
  have e1 := dnIn_nI hi (by decide)
  have e2 : (nI i).toNatClampNeg = i := nI_clamp (by omega)
  simp only [fX5_floatAt, dnB_eval, rg_3 ha, ra_1 ha, e1, e2, if_true, hs, c_isReal, isRl_nI hs2, dnP]
  cases hq : isRlN s
  · simp only [Bool.false_eq_true, if_false, dnB_eval, rg_4 ha, ra_2 ha, e1, e2, if_true, dnP]
  · simp only [if_true, dnB_eval, rg_5 ha, ra_3 ha, e1, e2, n32_ok (hok hq), dnP]
def cvS (kd s : Nat) : Nat := if kd < 8 then kd else s
def cvN (kd : Nat) (old n : Int64) : Int64 := if isRlN kd then old else n
def cvF (s : Nat) (n : Int64) (d : UInt64) : UInt32 := if isRlN s then FP.d2f d else FP.l2f n
def cvD (s : Nat) (n : Int64) (d : UInt64) : UInt64 := if isRlN s then d else FP.l2d n
def cvR (kd s : Nat) (n : Int64) (d : UInt64) : UInt64 := if kd = 6 then FP.f2d (cvF s n d) else if kd = 7 then cvD s n d else d
def fpOk (kd s : Nat) (n : Int64) (d : UInt64) : Prop := kd = 6 → ok64 (FP.f2d (cvF s n d)) ∧ (isRlN s = true → ok32 (FP.d2f d))
theorem dnUp_self {α : Type} {f : Nat → Nat → α} {a k : Nat} : dnUp f a k (f a k) = f := by
  funext x y
  unfold dnUp
  split
  · rename_i h
    rw [h.1, h.2]
  · rfl
theorem plain_nI {s : Nat} (h : s < 12) : inB (nI s) 0 7 = decide (s < 8) := (by decide +kernel : ∀ s, s < 12 → inB (nI s) 0 7 = decide (s < 8)) s h
theorem accept_c {h : dnH} {a i b j kd s : Nat} (ha : RowAt h a) (hb : RowAt h b) (hi : i < 12) (hj : j < 12) (hk : h.2.1 a 1 = nI kd) (hkd : kd < 12) (hs : h.2.1 (b + 1) j = nI s) (hs2 : s < 12) (hal : a = b → i = j → kd < 8 → s = kd) (hfp : fpOk kd s (h.2.2.1 (b + 2) j) (h.2.2.2.1 (b + 3) j)) :
    fX5_accept (some a) (nI i) (some b) (nI j) h = some (tk kd s, if tk kd s = true then wr h a i (nI (cvS kd s)) (cvN kd (h.2.2.1 (a + 2) i) (h.2.2.1 (b + 2) j)) (cvR kd s (h.2.2.1 (b + 2) j) (h.2.2.2.1 (b + 3) j)) else h) := by
  have e1 := dnIn_nI hi (by decide)
  have e2 : (nI i).toNatClampNeg = i := nI_clamp (by omega)
  have f1 := dnIn_nI hj (by decide)
  have f2 : (nI j).toNatClampNeg = j := nI_clamp (by omega)
  simp only [fX5_accept, dnB_eval, rg_3 hb, ra_1 hb, f1, f2, if_true, hs, rg_i ha, hk, takesC hkd hs2, dnP]
  cases htk : tk kd s
  · simp only [Bool.false_eq_true, if_false, dnP]
  · simp only [if_true, dnB_eval, rg_3 ha, rg_i ha, hk, c_isPlain, plain_nI hkd, dnP]
    have key : ∀ v : Int32, v = nI (cvS kd s) → fX5_accept_j46 (some a) (nI i) (some b) (nI j) (some (a + 1)) (nI i) v h = some (true, wr h a i (nI (cvS kd s)) (cvN kd (h.2.2.1 (a + 2) i) (h.2.2.1 (b + 2) j)) (cvR kd s (h.2.2.1 (b + 2) j) (h.2.2.2.1 (b + 3) j))) := by
      intro v hv
      subst hv
      have ha' : RowAt (dnSI h (a + 1) i (nI (cvS kd s))) a := ha
      have hb' : RowAt (dnSI h (a + 1) i (nI (cvS kd s))) b := hb
      have hk' : (dnSI h (a + 1) i (nI (cvS kd s))).2.1 a 1 = nI kd := by
        show dnUp _ _ _ _ _ _ = _
        rw [dnUp_neA (by omega), hk]
      have hs' : (dnSI h (a + 1) i (nI (cvS kd s))).2.1 (b + 1) j = nI s := by
        show dnUp _ _ _ _ _ _ = _
        by_cases hab : a = b ∧ i = j
        · obtain ⟨rfl, rfl⟩ := hab
          rw [dnUp_eq]
          unfold cvS
          split
          · rw [hal rfl rfl (by assumption)]
          · rfl
        · by_cases h2 : a = b
          · subst h2
            rw [dnUp_neK (fun h3 => hab ⟨rfl, h3.symm⟩), hs]
          · rw [dnUp_neA (by omega), hs]
      simp only [fX5_accept_j46, dnB_eval, rt_1 ha, e1, e2, if_true, rg_i ha', hk', c_isReal, isRl_nI hkd, dnP]
      cases hr : isRlN kd
      · have h67 : ¬ kd = 6 ∧ ¬ kd = 7 := by simpa [isRlN] using hr
        simp only [Bool.false_eq_true, if_false, dnB_eval, rg_4 ha', rg_4 hb', ra_2 hb', f1, f2, rt_2 ha', e1, e2, if_true, rg_5 (show RowAt (dnSL (dnSI h (a + 1) i (nI (cvS kd s))) (a + 2) i _) a from ha), rg_5 (show RowAt (dnSL (dnSI h (a + 1) i (nI (cvS kd s))) (a + 2) i _) b from hb), ra_3 (show RowAt (dnSL (dnSI h (a + 1) i (nI (cvS kd s))) (a + 2) i _) b from hb), rt_3 (show RowAt (dnSL (dnSI h (a + 1) i (nI (cvS kd s))) (a + 2) i _) a from ha), dnP]
        unfold wr cvN cvR
        rw [hr, if_neg h67.1, if_neg h67.2]
        rfl
      · have h67 : kd = 6 ∨ kd = 7 := by simpa [isRlN] using hr
        have h6 : (nI kd = 6) ↔ kd = 6 := (by decide +kernel : ∀ s, s < 12 → ((nI s = 6) ↔ s = 6)) kd hkd
        simp only [if_true, dnB_eval, rg_5 ha', rg_i ha', hk', rv hb']
        by_cases hk6 : kd = 6
        · obtain ⟨p1, p2⟩ := hfp hk6
          rw [if_neg (Decidable.not_not.mpr (h6.mpr hk6))]
          have p1' : ok64 (FP.f2d (if isRlN s = true then FP.d2f ((dnSI h (a + 1) i (nI (cvS kd s))).2.2.2.1 (b + 3) j) else FP.l2f ((dnSI h (a + 1) i (nI (cvS kd s))).2.2.1 (b + 2) j))) := p1
          simp only [dnB_eval, rv hb', floatAt_c hb' hj hs' hs2 p2]
          simp only [n64_ok p1', dnP, fX5_accept_j85, dnB_eval, rt_3 ha', e1, e2, if_true]
          unfold wr cvN cvR cvF
          rw [hr, if_pos hk6]
          simp only [if_true, dnSL, dnSD, dnSI, dnUp_self]
        · have hk7 : kd = 7 := by omega
          rw [if_pos (fun hc => hk6 (h6.mp hc))]
          simp only [dnB_eval, rv hb', doubleAt_c hb' hj hs' hs2, dnP, fX5_accept_j85, rt_3 ha', e1, e2, if_true]
          unfold wr cvN cvR cvD
          rw [hr, if_neg hk6, if_pos hk7]
          simp only [if_true, dnSL, dnSD, dnSI, dnUp_self]
    by_cases h8 : kd < 8
    · simp only [h8, decide_true, if_true, dnB_eval, rg_i ha, hk]
      exact key _ (by unfold cvS; rw [if_pos h8])
    · simp only [h8, decide_false, Bool.false_eq_true, if_false]
      exact key _ (by unfold cvS; rw [if_neg h8])
