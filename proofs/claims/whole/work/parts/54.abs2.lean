/-! ABS 2: a heap of the class, a heap of the reference, that bear a state -/
def CS (h0 : dnH) (S : Nat → Int32) (X : List Nat) (h : dnH) (A : Ab) : Prop := Sh h ∧ Eqc Pc h0 h ∧ (∀ r, r < 31 → h.2.1 (5 + 4 * r) 0 = nI r) ∧ (∀ p, p < 6 → h.2.1 3 (24 + p) = S p) ∧ VC X (vS h 1) A ∧ h.2.2.1 258 0 = A.2.2.2.1 ∧ h.2.1 258 1 = A.2.2.2.2.1 ∧ h.2.1 258 2 = A.2.2.2.2.2
def RS (h0 : dnH) (X : List Nat) (h : dnH) (A : Ab) : Prop := Sh h ∧ Eqc Pr h0 h ∧ (∀ r, r < 32 → h.2.1 295 r = if r ∈ X then 1 else 0) ∧ VR X (vR h) A ∧ (h.2.2.1 289 1 = A.2.2.2.1 ∧ h.2.1 289 2 = A.2.2.2.2.1 ∧ h.2.1 289 3 = A.2.2.2.2.2) ∧ h.2.1 289 37 = h0.2.1 289 37 ∧ (h.2.1 289 43, h.2.1 289 40) = (h0.2.1 289 43, h0.2.1 289 40)
def sp0 : Nat → Int32 := fun _ => -14
theorem live_mono {X Y : List Nat} {A : Ab} {n : Nat} (hX : ∀ m, m ∈ Y → m ∈ X) (h : live Y A n) : live X A n := by
  rcases h with h | h
  · exact .inl (hX n h)
  · exact .inr h
theorem VC.sub {X Y : List Nat} {V : Vw} {A : Ab} (hX : ∀ m, m ∈ Y → m ∈ X) (h : VC X V A) : VC Y V A := ⟨h.1, h.2.1, fun n hn hl => h.2.2 n hn (live_mono hX hl)⟩
theorem VR.sub {X Y : List Nat} {V : Vw} {A : Ab} (hX : ∀ m, m ∈ Y → m ∈ X) (h : VR X V A) : VR Y V A := ⟨h.1, h.2.1, fun n hn hl => h.2.2 n hn (live_mono hX hl)⟩
theorem CS.sub {X Y : List Nat} {h0 h : dnH} {S : Nat → Int32} {A : Ab} (hX : ∀ m, m ∈ Y → m ∈ X) (c : CS h0 S X h A) : CS h0 S Y h A := ⟨c.1, c.2.1, c.2.2.1, c.2.2.2.1, c.2.2.2.2.1.sub hX, c.2.2.2.2.2⟩
theorem Wf.sub {B : Nat} {X Y : List Nat} {A : Ab} (hX : ∀ m, m ∈ Y → m ∈ X) (w : Wf B X A) : Wf B Y A := ⟨w.1, w.2.1, w.2.2.1, fun n hn hl => w.2.2.2 n hn (live_mono hX hl)⟩
theorem rwOk.mono {B B2 : Nat} {R : Rw} (h : rwOk B R) (hB : B ≤ B2) : rwOk B2 R := ⟨h.1, h.2.1, fun i hi => ⟨(h.2.2 i hi).1, (h.2.2 i hi).2.1, (h.2.2 i hi).2.2.1, (h.2.2 i hi).2.2.2.mono hB⟩⟩
theorem Wf.mono {B B2 : Nat} {X : List Nat} {A : Ab} (w : Wf B X A) (hB : B ≤ B2) : Wf B2 X A := ⟨w.1, w.2.1, w.2.2.1, fun n hn hl => (w.2.2.2 n hn hl).mono hB⟩
theorem CS.pl {h0 h : dnH} {S : Nat → Int32} {X : List Nat} {A : Ab} (c : CS h0 S X h A) {g : Nat} (hg : g < 4) : h.2.1 2 g = A.1 g := c.2.2.2.2.1.1 g hg
theorem CS.hd {h0 h : dnH} {S : Nat → Int32} {X : List Nat} {A : Ab} (c : CS h0 S X h A) {k : Nat} (hk : k < 24) : h.2.1 3 k = A.2.1 k := c.2.2.2.2.1.2.1 k hk
theorem CS.row {h0 h : dnH} {S : Nat → Int32} {X : List Nat} {A : Ab} (c : CS h0 S X h A) {n : Nat} (hn : n < 31) (hl : live X A n) : RwH h (5 + 4 * n) (A.2.2.1 n) := by
  have := c.2.2.2.2.1.2.2 n hn hl
  unfold RwH
  unfold rwIs vS at this
  simp only [show 1 + 4 + 4 * n = 5 + 4 * n by omega] at this
  exact this
theorem CS.rowAt {h0 h : dnH} {S : Nat → Int32} {X : List Nat} {A : Ab} (c : CS h0 S X h A) {n : Nat} (hn : n < 31) : RowAt h (5 + 4 * n) := row1 c.1 hn
theorem RS.pl {h0 h : dnH} {X : List Nat} {A : Ab} (c : RS h0 X h A) {g : Nat} (hg : g < 4) : h.2.1 291 g = A.1 g := c.2.2.2.1.1 g hg
theorem RS.hd {h0 h : dnH} {X : List Nat} {A : Ab} (c : RS h0 X h A) {k : Nat} (hk : k < 24) : h.2.1 292 k = rc (A.2.1 k) := c.2.2.2.1.2.1 k hk
def RwR (h : dnH) (n : Nat) (R : Rw) : Prop := h.2.1 293 n = nI R.1 ∧ h.2.1 294 n = nI R.2.1 ∧ ∀ i, i < 12 → h.2.1 296 (12 * n + i) = nI (R.2.2 i).1 ∧ h.2.2.1 297 (12 * n + i) = (R.2.2 i).2.1 ∧ h.2.2.2.1 298 (12 * n + i) = (R.2.2 i).2.2
theorem RS.row {h0 h : dnH} {X : List Nat} {A : Ab} (c : RS h0 X h A) {n : Nat} (hn : n < 31) (hl : live X A n) : RwR h n (A.2.2.1 n) := c.2.2.2.1.2.2 n hn hl
theorem CS.fr {h0 h h2 : dnH} {S : Nat → Int32} {X : List Nat} {A : Ab} (c : CS h0 S X h A) (e : Eqc (fun x => x ≤ 258 ∨ 281 ≤ x) h h2) : CS h0 S X h2 A := by
  obtain ⟨c1, c2, c3, c4, c5, c6⟩ := c
  refine ⟨e.sh c1, c2.tr (e.im (fun x hx => by unfold Pc at hx; omega)), fun r hr => ?_, fun p hp => ?_, ⟨fun g hg => ?_, fun k hk => ?_, fun n hn hl => ?_⟩, ?_⟩
  · rw [(e.2.2 (5 + 4 * r) (by omega)).1]; exact c3 r hr
  · rw [(e.2.2 3 (by decide)).1]; exact c4 p hp
  · show h2.2.1 2 g = _
    rw [(e.2.2 2 (by decide)).1]; exact c5.1 g hg
  · show h2.2.1 3 k = _
    rw [(e.2.2 3 (by decide)).1]; exact c5.2.1 k hk
  · obtain ⟨a1, a2, a3⟩ := c5.2.2 n hn hl
    obtain ⟨-, -, g3⟩ := vS_go (s := 1) e (fun x h1 h2 => by omega)
    obtain ⟨t1, t2, t3, t4, t5⟩ := g3 n hn
    exact ⟨t1.trans a1, t2.trans a2, fun i hi => by rw [t3, t4, t5]; exact a3 i hi⟩
  · rw [(e.2.2 258 (by decide)).1, (e.2.2 258 (by decide)).2.1]; exact c6
theorem CS.hand {h0 h h2 : dnH} {S : Nat → Int32} {X : List Nat} {A : Ab} {a : Nat} (c : CS h0 S X h A) (ha : 259 ≤ a) (ha2 : a + 4 ≤ 281) (e : EqR a h h2) : CS h0 S X h2 A := c.fr (e.1.im (fun x hx => by omega))
theorem live_setR {X : List Nat} {A : Ab} {n m : Nat} {R : Rw} : live X (setR A n R) m ↔ live X A m := Iff.rfl
theorem CS.setRow {h0 h h2 : dnH} {S : Nat → Int32} {X Y : List Nat} {A : Ab} {n : Nat} {R : Rw} (c : CS h0 S X h A) (hn : n < 31) (hY : ∀ m, m ∈ Y → m = n ∨ m ∈ X) (e : EqR (5 + 4 * n) h h2) (w : RwH h2 (5 + 4 * n) R) : CS h0 S Y h2 (setR A n R) := by
  obtain ⟨c1, c2, c3, c4, c5, c6⟩ := c
  obtain ⟨e, e0⟩ := e
  refine ⟨e.sh c1, c2.tr (e.im (fun x hx => by unfold Pc at hx; omega)), fun r hr => ?_, fun p hp => ?_, ⟨fun g hg => ?_, fun k hk => ?_, fun m hm hl => ?_⟩, ?_⟩
  · by_cases q : r = n
    · subst q; rw [e0]; exact c3 r hr
    · rw [(e.2.2 (5 + 4 * r) (by omega)).1]; exact c3 r hr
  · rw [(e.2.2 3 (by omega)).1]; exact c4 p hp
  · show h2.2.1 2 g = _
    rw [(e.2.2 2 (by omega)).1]; exact c5.1 g hg
  · show h2.2.1 3 k = _
    rw [(e.2.2 3 (by omega)).1]; exact c5.2.1 k hk
  · by_cases q : m = n
    · subst q
      have : (setR A m R).2.2.1 m = R := if_pos rfl
      rw [this]
      unfold RwH at w
      unfold rwIs vS
      simp only [show 1 + 4 + 4 * m = 5 + 4 * m by omega]
      exact w
    · have e9 : (setR A n R).2.2.1 m = A.2.2.1 m := if_neg q
      rw [e9]
      have hl2 : live X A m := by
        rcases hl with hl | hl
        · rcases hY m hl with hl | hl
          · exact absurd hl q
          · exact .inl hl
        · exact .inr hl
      obtain ⟨a1, a2, a3⟩ := c5.2.2 m hm hl2
      refine ⟨?_, ?_, fun i hi => ⟨?_, ?_, ?_⟩⟩
      · show h2.2.1 (1 + 4 + 4 * m) 1 = _
        rw [(e.2.2 _ (by omega)).1]; exact a1
      · show h2.2.1 (1 + 4 + 4 * m) 2 = _
        rw [(e.2.2 _ (by omega)).1]; exact a2
      · show h2.2.1 (1 + 4 + 4 * m + 1) i = _
        rw [(e.2.2 _ (by omega)).1]; exact (a3 i hi).1
      · show h2.2.2.1 (1 + 4 + 4 * m + 2) i = _
        rw [(e.2.2 _ (by omega)).2.1]; exact (a3 i hi).2.1
      · show h2.2.2.2.1 (1 + 4 + 4 * m + 3) i = _
        rw [(e.2.2 _ (by omega)).2.2]; exact (a3 i hi).2.2
  · show h2.2.2.1 258 0 = A.2.2.2.1 ∧ h2.2.1 258 1 = A.2.2.2.2.1 ∧ h2.2.1 258 2 = A.2.2.2.2.2
    rw [(e.2.2 258 (by omega)).1, (e.2.2 258 (by omega)).2.1]; exact c6
theorem live_setH {X : List Nat} {A : Ab} {k n : Nat} {v : Int32} (hv : v = nI n → live X A n) (h : live X (setH A k v) n) : live X A n := by
  rcases h with h | ⟨j, hj, e⟩
  · exact .inl h
  · by_cases c : j = k
    · exact hv (by rw [← e]; exact (if_pos c).symm)
    · exact .inr ⟨j, hj, by rw [← e]; exact (if_neg c).symm⟩
theorem CS.place {h0 h : dnH} {S : Nat → Int32} {X : List Nat} {A : Ab} {k : Nat} {v : Int32} (c : CS h0 S X h A) (hk : k < 24) (hv : ∀ n, n < 31 → v = nI n → live X A n) : CS h0 S X (dnSI h 3 k v) (setH A k v) := by
  obtain ⟨c1, c2, c3, c4, c5, c6⟩ := c
  have e : Eqc (fun x => x ≠ 3) h (dnSI h 3 k v) := eqc_SI (fun hc => hc rfl)
  refine ⟨c1, c2.tr (e.im (fun x hx => by unfold Pc at hx; omega)), fun r hr => ?_, fun p hp => ?_, ⟨fun g hg => ?_, fun j hj => ?_, fun n hn hl => ?_⟩, c6⟩
  · rw [(e.2.2 (5 + 4 * r) (by omega)).1]; exact c3 r hr
  · rw [← c4 p hp]
    exact dnUp_neK (by omega)
  · show dnUp h.2.1 3 k v 2 g = _
    rw [dnUp_neA (by decide)]; exact c5.1 g hg
  · show dnUp h.2.1 3 k v 3 j = if j = k then v else A.2.1 j
    by_cases q : j = k
    · subst q; rw [if_pos rfl, dnUp_eq]
    · rw [if_neg q, dnUp_neK q]; exact c5.2.1 j hj
  · obtain ⟨a1, a2, a3⟩ := c5.2.2 n hn (live_setH (hv n hn) hl)
    refine ⟨?_, ?_, fun i hi => ⟨?_, (a3 i hi).2.1, (a3 i hi).2.2⟩⟩
    · show dnUp _ _ _ _ _ _ = _
      rw [dnUp_neA (by omega)]; exact a1
    · show dnUp _ _ _ _ _ _ = _
      rw [dnUp_neA (by omega)]; exact a2
    · show dnUp _ _ _ _ _ _ = _
      rw [dnUp_neA (by omega)]; exact (a3 i hi).1
theorem CS.spare {h0 h : dnH} {S : Nat → Int32} {X : List Nat} {A : Ab} {p : Nat} {v : Int32} (c : CS h0 S X h A) : CS h0 (fun q => if q = p then v else S q) X (dnSI h 3 (24 + p) v) A := by
  obtain ⟨c1, c2, c3, c4, c5, c6⟩ := c
  have e : Eqc (fun x => x ≠ 3) h (dnSI h 3 (24 + p) v) := eqc_SI (fun hc => hc rfl)
  refine ⟨c1, c2.tr (e.im (fun x hx => by unfold Pc at hx; omega)), fun r hr => ?_, fun q hq => ?_, ⟨fun g hg => ?_, fun j hj => ?_, fun n hn hl => ?_⟩, c6⟩
  · rw [(e.2.2 (5 + 4 * r) (by omega)).1]; exact c3 r hr
  · show dnUp h.2.1 3 (24 + p) v 3 (24 + q) = if q = p then v else S q
    by_cases c : q = p
    · subst c; rw [if_pos rfl, dnUp_eq]
    · rw [if_neg c, dnUp_neK (by omega)]; exact c4 q hq
  · show dnUp h.2.1 3 (24 + p) v 2 g = _
    rw [dnUp_neA (by decide)]; exact c5.1 g hg
  · show dnUp _ _ _ _ _ _ = _
    rw [dnUp_neK (by omega)]; exact c5.2.1 j hj
  · obtain ⟨a1, a2, a3⟩ := c5.2.2 n hn hl
    refine ⟨?_, ?_, fun i hi => ⟨?_, (a3 i hi).2.1, (a3 i hi).2.2⟩⟩
    · show dnUp _ _ _ _ _ _ = _
      rw [dnUp_neA (by omega)]; exact a1
    · show dnUp _ _ _ _ _ _ = _
      rw [dnUp_neA (by omega)]; exact a2
    · show dnUp _ _ _ _ _ _ = _
      rw [dnUp_neA (by omega)]; exact (a3 i hi).1
/-- the number of places of a grid; k = 4 is the spare grid -/
theorem CS.many {h0 h : dnH} {S : Nat → Int32} {X : List Nat} {A : Ab} {g : Nat} {v : Int32} (c : CS h0 S X h A) : CS h0 S X (dnSI h 2 g v) (setM A g v) := by
  obtain ⟨c1, c2, c3, c4, c5, c6⟩ := c
  have e : Eqc (fun x => x ≠ 2) h (dnSI h 2 g v) := eqc_SI (fun hc => hc rfl)
  refine ⟨c1, c2.tr (e.im (fun x hx => by unfold Pc at hx; omega)), fun r hr => ?_, fun q hq => ?_, ⟨fun j hj => ?_, fun j hj => ?_, fun n hn hl => ?_⟩, c6⟩
  · rw [(e.2.2 (5 + 4 * r) (by omega)).1]; exact c3 r hr
  · rw [(e.2.2 3 (by decide)).1]; exact c4 q hq
  · show dnUp h.2.1 2 g v 2 j = if j = g then v else A.1 j
    by_cases q : j = g
    · subst q; rw [if_pos rfl, dnUp_eq]
    · rw [if_neg q, dnUp_neK q]; exact c5.1 j hj
  · show dnUp h.2.1 2 g v 3 j = _
    rw [dnUp_neA (by decide)]; exact c5.2.1 j hj
  · obtain ⟨a1, a2, a3⟩ := c5.2.2 n hn hl
    refine ⟨?_, ?_, fun i hi => ⟨?_, (a3 i hi).2.1, (a3 i hi).2.2⟩⟩
    · show dnUp _ _ _ _ _ _ = _
      rw [dnUp_neA (by omega)]; exact a1
    · show dnUp _ _ _ _ _ _ = _
      rw [dnUp_neA (by omega)]; exact a2
    · show dnUp _ _ _ _ _ _ = _
      rw [dnUp_neA (by omega)]; exact (a3 i hi).1
theorem CS.note {h0 h h2 : dnH} {S : Nat → Int32} {X : List Nat} {A : Ab} (c : CS h0 S X h A) (e : Eqc (fun x => x ≠ 258) h h2) : CS h0 S X h2 (setN A (h2.2.2.1 258 0, h2.2.1 258 1, h2.2.1 258 2)) := by
  obtain ⟨c1, c2, c3, c4, c5, c6⟩ := c
  refine ⟨e.sh c1, c2.tr (e.im (fun x hx => by unfold Pc at hx; omega)), fun r hr => ?_, fun p hp => ?_, ⟨fun g hg => ?_, fun k hk => ?_, fun n hn hl => ?_⟩, rfl, rfl, rfl⟩
  · rw [(e.2.2 (5 + 4 * r) (by omega)).1]; exact c3 r hr
  · rw [(e.2.2 3 (by decide)).1]; exact c4 p hp
  · show h2.2.1 2 g = _
    rw [(e.2.2 2 (by decide)).1]; exact c5.1 g hg
  · show h2.2.1 3 k = _
    rw [(e.2.2 3 (by decide)).1]; exact c5.2.1 k hk
  · obtain ⟨a1, a2, a3⟩ := c5.2.2 n hn hl
    obtain ⟨-, -, g3⟩ := vS_go (s := 1) e (fun x h1 h2 => by omega)
    obtain ⟨t1, t2, t3, t4, t5⟩ := g3 n hn
    exact ⟨t1.trans a1, t2.trans a2, fun i hi => by rw [t3, t4, t5]; exact a3 i hi⟩
