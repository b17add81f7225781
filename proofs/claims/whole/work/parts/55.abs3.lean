/-! ABS 3: what the reference's writes do to the state it bears -/
def Pn (x : Nat) : Prop := x ≠ 289 ∧ (x < 299 ∨ 308 ≤ x)
theorem RS.fr {h0 h h2 : dnH} {X : List Nat} {A : Ab} (c : RS h0 X h A) (e : Eqc Pn h h2) (e9 : E9 h h2) : RS h0 X h2 A := by
  obtain ⟨c1, c2, c3, c4, c5, c6, c7⟩ := c
  refine ⟨e.sh c1, c2.tr (e.im (fun x hx => by unfold Pr at hx; unfold Pn; omega)), fun r hr => ?_, ?_, ?_, e9.2.2.2.1.trans c6, e9.2.2.2.2.trans c7⟩
  · rw [(e.2.2 295 (by unfold Pn; decide)).1]; exact c3 r hr
  · rw [vR_go e (fun x h1 h2 h3 => by unfold Pn; omega)]; exact c4
  · rw [e9.1, e9.2.1, e9.2.2.1]; exact c5
theorem RS.sub {h0 h : dnH} {X Y : List Nat} {A : Ab} (c : RS h0 X h A) (hX : ∀ m, m ∈ Y → m ∈ X) (hf : ∀ r, r < 32 → h.2.1 295 r = if r ∈ Y then 1 else 0) : RS h0 Y h A := ⟨c.1, c.2.1, hf, c.2.2.2.1.sub hX, c.2.2.2.2⟩
/-- the value at hand -/
def hv (h : dnH) (c : Cel) : Prop := h.2.1 289 12 = nI c.1 ∧ h.2.2.1 289 13 = c.2.1 ∧ h.2.2.2.1 289 14 = c.2.2
theorem hv_set {h : dnH} {c : Cel} : hv (setV h (nI c.1) c.2.1 c.2.2) c := by
  refine ⟨?_, ?_, ?_⟩ <;> simp [setV, dnSI, dnSL, dnSD, dnUp]
theorem RS.setV {h0 h : dnH} {X : List Nat} {A : Ab} (c : RS h0 X h A) {s : Int32} {n : Int64} {d : UInt64} : RS h0 X (setV h s n d) A := c.fr (eqc_setV (by unfold Pn; decide)) e9_setV
theorem makes_A {h0 h : dnH} {X : List Nat} {A : Ab} (c : RS h0 X h A) {s : Nat} (hs : s < 12) (v : Int64) : ∃ h2, fX13_makes (some 289) (nI s) v h = some ((), h2) ∧ RS h0 X h2 A ∧ hv h2 (mkC s v) :=
  ⟨_, makes_r c.1 hs (mkOk_all s v), c.setV, hv_set (c := mkC s v)⟩
theorem loads_A {h0 h : dnH} {X : List Nat} {A : Ab} (c : RS h0 X h A) {r i : Nat} (hr : r < 31) (hl : live X A r) (hi : i < 12) : ∃ h2, fX13_loads (some 289) (nI r) (nI i) h = some ((), h2) ∧ RS h0 X h2 A ∧ hv h2 ((A.2.2.1 r).2.2 i) := by
  obtain ⟨a1, a2, a3⟩ := (c.row hr hl).2.2 i hi
  refine ⟨_, loads_r c.1 (by omega) hi, c.setV, ?_⟩
  rw [a1, a2, a3]
  exact hv_set
theorem RS.cell {h0 h : dnH} {X : List Nat} {A : Ab} {n i : Nat} {x : Cel} (c : RS h0 X h A) (hn : n < 31) (hl : live X A n) (hi : i < 12) : RS h0 X (wrR h (12 * n + i) (nI x.1) x.2.1 x.2.2) (setR A n (setC (A.2.2.1 n) i x)) := by
  obtain ⟨c1, c2, c3, c4, c5, c6, c7⟩ := c
  have e : Eqc (fun x => x ≠ 296 ∧ x ≠ 297 ∧ x ≠ 298) h (wrR h (12 * n + i) (nI x.1) x.2.1 x.2.2) := eqc_wrR (fun hc => hc.1 rfl) (fun hc => hc.2.1 rfl) (fun hc => hc.2.2 rfl)
  refine ⟨e.sh c1, c2.tr (e.im (fun x hx => by unfold Pr at hx; omega)), fun r hr => ?_, ⟨fun g hg => ?_, fun k hk => ?_, fun m hm hlm => ?_⟩, ?_, ?_, ?_⟩
  · rw [(e.2.2 295 (by decide)).1]; exact c3 r hr
  · show (wrR h (12 * n + i) (nI x.1) x.2.1 x.2.2).2.1 291 g = _
    rw [(e.2.2 291 (by decide)).1]; exact c4.1 g hg
  · show (wrR h (12 * n + i) (nI x.1) x.2.1 x.2.2).2.1 292 k = _
    rw [(e.2.2 292 (by decide)).1]; exact c4.2.1 k hk
  · obtain ⟨a1, a2, a3⟩ := c4.2.2 m hm hlm
    by_cases q : m = n
    · subst q
      have e9 : (setR A m (setC (A.2.2.1 m) i x)).2.2.1 m = setC (A.2.2.1 m) i x := if_pos rfl
      rw [e9]
      refine ⟨?_, ?_, fun j hj => ?_⟩
      · show (wrR h (12 * m + i) (nI x.1) x.2.1 x.2.2).2.1 293 m = _
        rw [(e.2.2 293 (by decide)).1]; exact a1
      · show (wrR h (12 * m + i) (nI x.1) x.2.1 x.2.2).2.1 294 m = _
        rw [(e.2.2 294 (by decide)).1]; exact a2
      · obtain ⟨b1, b2, b3⟩ := a3 j hj
        have b1' : h.2.1 296 (12 * m + j) = nI ((A.2.2.1 m).2.2 j).1 := b1
        have b2' : h.2.2.1 297 (12 * m + j) = ((A.2.2.1 m).2.2 j).2.1 := b2
        have b3' : h.2.2.2.1 298 (12 * m + j) = ((A.2.2.1 m).2.2 j).2.2 := b3
        show (wrR h (12 * m + i) (nI x.1) x.2.1 x.2.2).2.1 296 (12 * m + j) = nI (if j = i then x else (A.2.2.1 m).2.2 j).1 ∧ (wrR h (12 * m + i) (nI x.1) x.2.1 x.2.2).2.2.1 297 (12 * m + j) = (if j = i then x else (A.2.2.1 m).2.2 j).2.1 ∧ (wrR h (12 * m + i) (nI x.1) x.2.1 x.2.2).2.2.2.1 298 (12 * m + j) = (if j = i then x else (A.2.2.1 m).2.2 j).2.2
        by_cases q : j = i
        · subst q
          simp [wrR, dnSI, dnSL, dnSD, dnUp]
        · have q2 : ¬ 12 * m + j = 12 * m + i := by omega
          simp [wrR, dnSI, dnSL, dnSD, dnUp, q, b1', b2', b3']
    · have e9 : (setR A n (setC (A.2.2.1 n) i x)).2.2.1 m = A.2.2.1 m := if_neg q
      rw [e9]
      refine ⟨?_, ?_, fun j hj => ?_⟩
      · show (wrR h (12 * n + i) (nI x.1) x.2.1 x.2.2).2.1 293 m = _
        rw [(e.2.2 293 (by decide)).1]; exact a1
      · show (wrR h (12 * n + i) (nI x.1) x.2.1 x.2.2).2.1 294 m = _
        rw [(e.2.2 294 (by decide)).1]; exact a2
      · obtain ⟨b1, b2, b3⟩ := a3 j hj
        have b1' : h.2.1 296 (12 * m + j) = nI ((A.2.2.1 m).2.2 j).1 := b1
        have b2' : h.2.2.1 297 (12 * m + j) = ((A.2.2.1 m).2.2 j).2.1 := b2
        have b3' : h.2.2.2.1 298 (12 * m + j) = ((A.2.2.1 m).2.2 j).2.2 := b3
        have q2 : ¬ 12 * m + j = 12 * n + i := by omega
        show (wrR h (12 * n + i) (nI x.1) x.2.1 x.2.2).2.1 296 (12 * m + j) = nI ((A.2.2.1 m).2.2 j).1 ∧ (wrR h (12 * n + i) (nI x.1) x.2.1 x.2.2).2.2.1 297 (12 * m + j) = ((A.2.2.1 m).2.2 j).2.1 ∧ (wrR h (12 * n + i) (nI x.1) x.2.1 x.2.2).2.2.2.1 298 (12 * m + j) = ((A.2.2.1 m).2.2 j).2.2
        simp [wrR, dnSI, dnSL, dnSD, dnUp, q2, b1', b2', b3']
  · exact c5
  · exact c6
  · exact c7
theorem lays_A {h0 h : dnH} {X : List Nat} {A : Ab} {x : Cel} (c : RS h0 X h A) (hx : hv h x) {r i : Nat} (hr : r < 31) (hl : live X A r) (hi : i < 12) : ∃ h2, fX13_lays (some 289) (nI r) (nI i) h = some ((), h2) ∧ RS h0 X h2 (setR A r (setC (A.2.2.1 r) i x)) ∧ hv h2 x := by
  obtain ⟨a1, a2, a3⟩ := hx
  refine ⟨_, lays_r c.1 (by omega) hi, ?_, ?_⟩
  · rw [a1, a2, a3]; exact c.cell hr hl hi
  · exact ⟨a1, a2, a3⟩
theorem cvt_r {B kd : Nat} {c : Cel} (hkd : kd < 12) (hs : c.1 < 12) (ht : tk kd c.1 = true) (h : valOk B c.1 c.2.1 c.2.2) : (cvt kd c).2.1 = cvNr kd c.1 c.2.1 ∧ (cvt kd c).2.2 = cvRr kd c.1 c.2.1 c.2.2 := by
  obtain ⟨k1, k2, k3⟩ := cv_same hkd hs ht (B := B) (n := c.2.1) (d := c.2.2) h.2.2.2.2.2.1 h.2.2.2.1
  refine ⟨?_, k1.symm⟩
  show cvNN kd c.2.1 = _
  unfold cvNN
  by_cases q : isRlN kd = true
  · rw [if_pos q, k2 q]
  · rw [if_neg q, k3 (by simpa using q)]
theorem widens_A {B : Nat} {h0 h : dnH} {X : List Nat} {A : Ab} {x : Cel} (c : RS h0 X h A) (hx : hv h x) {kd : Nat} (hkd : kd < 8) (hs : x.1 < 12) (ht : tk kd x.1 = true) (w : valOk B x.1 x.2.1 x.2.2) : ∃ h2, fX13_widens (some 289) (nI kd) h = some ((), h2) ∧ RS h0 X h2 A ∧ hv h2 (cvt kd x) := by
  obtain ⟨a1, a2, a3⟩ := hx
  obtain ⟨k1, k2⟩ := cvt_r (show kd < 12 by omega) hs ht w
  refine ⟨_, widens_r c.1 (by omega) hs a1 (fun _ _ => ok_l2f _), c.setV, ?_⟩
  rw [a2, a3, ← k1, ← k2]
  have e : (cvt kd x).1 = kd := if_pos hkd
  have := hv_set (h := h) (c := cvt kd x)
  rw [e] at this
  exact this
theorem puts_A {B : Nat} {h0 h : dnH} {X : List Nat} {A : Ab} {x : Cel} (c : RS h0 X h A) (hx : hv h x) {r i : Nat} (hr : r < 31) (hl : live X A r) (hi : i < 12) (hkd : (A.2.2.1 r).1 < 12) (hs : x.1 < 12) (w : valOk B x.1 x.2.1 x.2.2) :
    ∃ h2, fX13_puts (some 289) (nI r) (nI i) h = some (tk (A.2.2.1 r).1 x.1, h2) ∧ RS h0 X h2 (if tk (A.2.2.1 r).1 x.1 = true then setR A r (setC (A.2.2.1 r) i (cvt (A.2.2.1 r).1 x)) else A) := by
  obtain ⟨a1, a2, a3⟩ := hx
  have key := puts_r c.1 (show r < 32 by omega) hi (c.row hr hl).1 hkd a1 hs (fun _ _ => ok_l2f _)
  cases ht : tk (A.2.2.1 r).1 x.1
  · rw [ht] at key
    exact ⟨h, key, c⟩
  · rw [ht, if_pos rfl, a2, a3] at key
    obtain ⟨k1, k2⟩ := cvt_r hkd hs ht w
    rw [← k1, ← k2] at key
    exact ⟨_, key, by rw [if_pos rfl]; exact c.setV.cell hr hl hi⟩
theorem copies_A {B : Nat} {h0 h : dnH} {X : List Nat} {A : Ab} (c : RS h0 X h A) {r i q j : Nat} (hr : r < 31) (hl : live X A r) (hi : i < 12) (hq : q < 31) (hlq : live X A q) (hj : j < 12) (hkd : (A.2.2.1 q).1 < 12) (w : celOk B (A.2.2.1 r).1 ((A.2.2.1 r).2.2 i)) :
    ∃ h2, fX13_copies (some 289) (nI r) (nI i) (nI q) (nI j) h = some ((), h2) ∧ RS h0 X h2 (if tk (A.2.2.1 q).1 ((A.2.2.1 r).2.2 i).1 = true then setR A q (setC (A.2.2.1 q) j (cvt (A.2.2.1 q).1 ((A.2.2.1 r).2.2 i))) else A) := by
  obtain ⟨h1, e1, c1, v1⟩ := loads_A c hr hl hi
  obtain ⟨h2, e2, c2⟩ := puts_A c1 v1 hq hlq hj hkd w.1 w.2.2.2
  exact ⟨h2, by simp only [fX13_copies, dnB_eval, v_289 c.1, e1, v_289 c1.1, e2, dnP], c2⟩
theorem RS.place {h0 h : dnH} {X : List Nat} {A : Ab} {k : Nat} {v : Int32} (c : RS h0 X h A) (hv : ∀ n, n < 31 → v = nI n → live X A n) : RS h0 X (dnSI h 292 k (rc v)) (setH A k v) := by
  obtain ⟨c1, c2, c3, c4, c5⟩ := c
  have e : Eqc (fun x => x ≠ 292) h (dnSI h 292 k (rc v)) := eqc_SI (fun hc => hc rfl)
  refine ⟨c1, c2.tr (e.im (fun x hx => by unfold Pr at hx; omega)), fun r hr => ?_, ⟨fun g hg => ?_, fun j hj => ?_, fun n hn hl => ?_⟩, c5⟩
  · rw [(e.2.2 295 (by decide)).1]; exact c3 r hr
  · show dnUp h.2.1 292 k (rc v) 291 g = _
    rw [dnUp_neA (by decide)]; exact c4.1 g hg
  · show dnUp h.2.1 292 k (rc v) 292 j = rc (if j = k then v else A.2.1 j)
    by_cases q : j = k
    · subst q; rw [if_pos rfl, dnUp_eq]
    · rw [if_neg q, dnUp_neK q]; exact c4.2.1 j hj
  · exact c4.2.2 n hn (live_setH (hv n hn) hl)
theorem holdsNow_A {h0 h : dnH} {X : List Nat} {A : Ab} {g p : Nat} {v : Int32} (c : RS h0 X h A) (hg : g < 4) (hp : p < 6) (hv : ∀ n, n < 31 → v = nI n → live X A n) : fX13_holdsNow (some 289) (nI g) (nI p) (rc v) h = some ((), dnSI h 292 (6 * g + p) (rc v)) ∧ RS h0 X (dnSI h 292 (6 * g + p) (rc v)) (setH A (6 * g + p) v) :=
  ⟨holdsNow_r c.1 hg hp _, c.place hv⟩
theorem RS.many {h0 h : dnH} {X : List Nat} {A : Ab} {g : Nat} {v : Int32} (c : RS h0 X h A) : RS h0 X (dnSI h 291 g v) (setM A g v) := by
  obtain ⟨c1, c2, c3, c4, c5⟩ := c
  have e : Eqc (fun x => x ≠ 291) h (dnSI h 291 g v) := eqc_SI (fun hc => hc rfl)
  refine ⟨c1, c2.tr (e.im (fun x hx => by unfold Pr at hx; omega)), fun r hr => ?_, ⟨fun j hj => ?_, fun j hj => ?_, c4.2.2⟩, c5⟩
  · rw [(e.2.2 295 (by decide)).1]; exact c3 r hr
  · show dnUp h.2.1 291 g v 291 j = if j = g then v else A.1 j
    by_cases q : j = g
    · subst q; rw [if_pos rfl, dnUp_eq]
    · rw [if_neg q, dnUp_neK q]; exact c4.1 j hj
  · show dnUp h.2.1 291 g v 292 j = _
    rw [dnUp_neA (by decide)]; exact c4.2.1 j hj
theorem RS.note {h0 h h2 : dnH} {X : List Nat} {A : Ab} (c : RS h0 X h A) (e : Eqc Pn h h2) (e37 : h2.2.1 289 37 = h.2.1 289 37) (e43 : (h2.2.1 289 43, h2.2.1 289 40) = (h.2.1 289 43, h.2.1 289 40)) : RS h0 X h2 (setN A (h2.2.2.1 289 1, h2.2.1 289 2, h2.2.1 289 3)) := by
  obtain ⟨c1, c2, c3, c4, c5, c6, c7⟩ := c
  refine ⟨e.sh c1, c2.tr (e.im (fun x hx => by unfold Pr at hx; unfold Pn; omega)), fun r hr => ?_, ?_, ⟨rfl, rfl, rfl⟩, e37.trans c6, e43.trans c7⟩
  · rw [(e.2.2 295 (by unfold Pn; decide)).1]; exact c3 r hr
  · rw [vR_go e (fun x h1 h2 h3 => by unfold Pn; omega)]; exact c4
