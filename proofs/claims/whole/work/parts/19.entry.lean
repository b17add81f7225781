/-! THE ENTRY: what the Statement gives of the start, in the words of this proof -/
def enFL : List Cond := flatC (Jvm.Cond.and given_1 narrow_1)
def enNm : List String := ["ROW", "DROP", "SWAP", "SHARE", "CUT", "CAST", "JOIN", "FLIP", "ROLL", "ORDER", "ADD", "FLAT", "DEAL", "TURN"]
def enId (i : Nat) : Nat := [74, 80, 83, 86, 89, 92, 95, 98, 101, 104, 107, 110, 113, 116].getD i 0
abbrev enS (i : Nat) : Term := .static "KindGrids$Step" (enNm.getD i "") "LKindGrids$Step;"
abbrev enT (i : Nat) : Term := .string "KindGrids$Step" (enId i)
theorem ev_t {args : Array Value} {s : State} {a b : Term} {v : Value} (h : (Cond.eq a b).before args s = true) (hb : b.eval args s none [] s = some v) : a.eval args s none [] s = some v := by
  obtain ⟨y, h1, h2⟩ := Cond.eq_one h
  rw [hb] at h2
  cases h2
  exact h1
theorem ev_i {args : Array Value} {s : State} {t : Term} {v : Int32} (h : (Cond.eq t (.int v)).before args s = true) : t.eval args s none [] s = some (.int v) := ev_t h rfl
theorem en_tk : ∀ j, j < 12 → Cond.eq (.elem (.static "KindGrids" "TAKEN" "[I") (.int (Int32.ofNat j))) (.int (dnTk j)) ∈ enFL := by decide +kernel
theorem en_tk1 : Cond.arrayOf (.static "KindGrids" "TAKEN" "[I") .int ∈ enFL ∧ Cond.eq (.length (.static "KindGrids" "TAKEN" "[I")) (.int 12) ∈ enFL := by decide +kernel
theorem en_sw : ∀ j, j < 14 → Cond.eq (.elem (.static "KindGrids$1" "$SwitchMap$KindGrids$Step" "[I") (.int (Int32.ofNat j))) (.int (dnSw j)) ∈ enFL := by decide +kernel
theorem en_sw1 : Cond.arrayOf (.static "KindGrids$1" "$SwitchMap$KindGrids$Step" "[I") .int ∈ enFL ∧ Cond.eq (.length (.static "KindGrids$1" "$SwitchMap$KindGrids$Step" "[I")) (.int 14) ∈ enFL := by decide +kernel
theorem en_wd : ∀ j, j < 14 → Cond.eq (.elem (.static "KindGrids" "WORDS" "[LKindGrids$Step;") (.int (Int32.ofNat j))) (enS j) ∈ enFL := by decide +kernel
theorem en_wd1 : Cond.arrayOf (.static "KindGrids" "WORDS" "[LKindGrids$Step;") (.object "KindGrids$Step") ∈ enFL ∧ Cond.eq (.length (.static "KindGrids" "WORDS" "[LKindGrids$Step;")) (.int 14) ∈ enFL := by decide +kernel
theorem en_ex : ∀ j, j < 14 → Cond.exactly (enS j) "KindGrids$Step" ∈ enFL := by decide +kernel
theorem en_num : ∀ j, j < 14 → Cond.eq (.field (enS j) "KindGrids$Step" "numbers" "I") (.int (dnNum j)) ∈ enFL := by decide +kernel
theorem en_ord : ∀ j, j < 14 → Cond.eq (.field (enS j) "java/lang/Enum" "ordinal" "I") (.int (Int32.ofNat j)) ∈ enFL := by decide +kernel
theorem en_wrd : ∀ j, j < 14 → Cond.eq (.field (enS j) "KindGrids$Step" "word" "Ljava/lang/String;") (enT j) ∈ enFL := by decide +kernel
theorem en_s1 : ∀ j, j < 14 → Cond.exactly (enT j) "java/lang/String" ∈ enFL ∧ Cond.eq (.field (enT j) "java/lang/String" "coder" "B") (.int 0) ∈ enFL ∧ Cond.arrayOf (.field (enT j) "java/lang/String" "value" "[B") .byte ∈ enFL ∧ Cond.eq (.length (.field (enT j) "java/lang/String" "value" "[B")) (.int (Int32.ofNat ((dnWrd.map List.length).getD j 0))) ∈ enFL := by decide +kernel
theorem en_s2 : ∀ i, i < 14 → ∀ j, j < (dnWrd.map List.length).getD i 0 → Cond.eq (.elem (.field (enT i) "java/lang/String" "value" "[B") (.int (Int32.ofNat j))) (.int ((dnWrd.getD i []).getD j 0)) ∈ enFL := by decide +kernel
def enBs (j : Nat) : Nat := [0, 246, 255, 266, 276, 288, 301, 315, 330, 347, 363, 381, 400, 420].getD j 0
theorem en_s3a : ∀ j, j < 14 → ∀ i, i < j → enFL[enBs j + i]? = some (Cond.not (Cond.eq (enT i) (enT j))) := by decide +kernel
theorem en_s3 (i : Nat) (hi : i < 14) (j : Nat) (hj : j < 14) (hne : i ≠ j) : Cond.not (Cond.eq (enT i) (enT j)) ∈ enFL ∨ Cond.not (Cond.eq (enT j) (enT i)) ∈ enFL := by
  rcases Nat.lt_or_gt_of_ne hne with h | h
  · exact Or.inl (List.mem_of_getElem? (en_s3a j hj i h))
  · exact Or.inr (List.mem_of_getElem? (en_s3a i hi j h))
theorem en_s4 : ∀ i, i < 14 → (dnWrd.map List.length).getD i 0 < 2 ^ 31 := by decide +kernel
theorem en_cs : Cond.eq (.static "java/lang/String" "COMPACT_STRINGS" "Z") (.int 1) ∈ enFL ∧ Cond.isRef (.static "jdk/internal/util/Preconditions" "SIOOBE_FORMATTER" "Ljava/util/function/BiFunction;") ∈ enFL := by decide +kernel
set_option maxHeartbeats 4000000 in
theorem ext_start {args : Array Value} {s : State} (hts : ∀ w ∈ lw_tbl, w.before args s = true) (hgv : (Jvm.Cond.and given_1 narrow_1).before args s = true) : ∃ x : dnX, dnExt x s.heap.size s s.heap := by
  have hs : ∀ c ∈ enFL, c.before args s = true := flat_of_before _ hgv
  have hA : ∀ a : Nat, a < s.heap.size → ¬ (fun q : Nat => s.heap.size ≤ q) a := fun a h => Nat.not_le.mpr h
  obtain ⟨xT, eT, hT⟩ := va_Tof (tm := .static "KindGrids" "TAKEN" "[I") (ty := .int) (N := 12) (f := fun j => .int (dnTk j)) (by decide) (hs _ en_tk1.1) (ev_i (hs _ en_tk1.2)) (fun j hj => ev_i (hs _ (en_tk j hj))) hA
  obtain ⟨xS, eS, hSw⟩ := va_Tof (tm := .static "KindGrids$1" "$SwitchMap$KindGrids$Step" "[I") (ty := .int) (N := 14) (f := fun j => .int (dnSw j)) (by decide) (hs _ en_sw1.1) (ev_i (hs _ en_sw1.2)) (fun j hj => ev_i (hs _ (en_sw j hj))) hA
  have hex : ∀ i : Nat, ∃ a : Nat, i < 14 → (enS i).eval args s none [] s = some (.ref a) ∧ va_O "KindGrids$Step" a (fun q => s.heap.size ≤ q) s s.heap := by
    intro i
    by_cases hi : i < 14
    · obtain ⟨a, c, cell, k, h1, h2, h3, h4, h5, h6, -⟩ := Cond.exactly_spec (hs _ (en_ex i hi))
      exact ⟨a, fun _ => ⟨h1, cell, h3, h5, by rw [h6]; exact h2, hA a (Array.getElem?_eq_some_iff.mp h3).1⟩⟩
    · exact ⟨0, fun h => absurd h hi⟩
  obtain ⟨ad, had⟩ := Classical.axiomOfChoice hex
  obtain ⟨xW, eW, hW⟩ := va_Tof (tm := .static "KindGrids" "WORDS" "[LKindGrids$Step;") (ty := .object "KindGrids$Step") (N := 14) (f := fun j => .ref (ad j)) (by decide) (hs _ en_wd1.1) (ev_i (hs _ en_wd1.2)) (fun j hj => ev_t (hs _ (en_wd j hj)) (had j hj).1) hA
  obtain ⟨adK, adV, hStr, hev⟩ := vk_Sof (N := 14) (tm := enT) (len := dnWrd.map List.length) (byt := dnWrd) (args := args) (s := s) (A := fun q => s.heap.size ≤ q) en_s4 (fun i hi => hs _ (en_s1 i hi).1) (fun i hi => hs _ (en_s1 i hi).2.1) (fun i hi => hs _ (en_s1 i hi).2.2.1) (fun i hi => hs _ (en_s1 i hi).2.2.2) (fun i hi j hj => hs _ (en_s2 i hi j hj)) (fun i j hi hj hne => (en_s3 i hi j hj hne).imp (hs _) (hs _)) hA
  have h1 := va_Efof (N := 14) (E := "KindGrids$Step") (d0 := "LKindGrids$Step;") (o := "KindGrids$Step") (n := "numbers") (d := "I") (nm := enNm) (v := fun i => .int (dnNum i)) (tm := fun i => .int (dnNum i)) (ad := ad) (args := args) (s := s) (fun i hi => (had i hi).1) (fun i hi => hs _ (en_num i hi)) (fun _ _ => rfl) hA
  have h2 := va_Efof (N := 14) (E := "KindGrids$Step") (d0 := "LKindGrids$Step;") (o := "java/lang/Enum") (n := "ordinal") (d := "I") (nm := enNm) (v := fun i => .int (Int32.ofNat i)) (tm := fun i => .int (Int32.ofNat i)) (ad := ad) (args := args) (s := s) (fun i hi => (had i hi).1) (fun i hi => hs _ (en_ord i hi)) (fun _ _ => rfl) hA
  have h3 := va_Efof (N := 14) (E := "KindGrids$Step") (d0 := "LKindGrids$Step;") (o := "KindGrids$Step") (n := "word") (d := "Ljava/lang/String;") (nm := enNm) (v := fun i => .ref (adK i)) (tm := enT) (ad := ad) (args := args) (s := s) (fun i hi => (had i hi).1) (fun i hi => hs _ (en_wrd i hi)) hev hA
  refine ⟨(xT, xW, xS, ad, adK, adV), ⟨va_Zref (hts _ (List.mem_of_getElem? (by decide +kernel : lw_tbl[587]? = some _))) (hts _ (List.mem_of_getElem? (by decide +kernel : lw_tbl[104]? = some _))) eT hA, hT⟩, ⟨va_Zref (hts _ (List.mem_of_getElem? (by decide +kernel : lw_tbl[1071]? = some _))) (hts _ (List.mem_of_getElem? (by decide +kernel : lw_tbl[104]? = some _))) eW hA, hW⟩, ⟨va_Zref (hts _ (List.mem_of_getElem? (by decide +kernel : lw_tbl[1147]? = some _))) (hts _ (List.mem_of_getElem? (by decide +kernel : lw_tbl[123]? = some _))) eS hA, hSw⟩, ⟨h1, h2, h3⟩, fun i hi => (had i hi).2, hStr, va_Zof (hts _ (List.mem_of_getElem? (by decide +kernel : lw_tbl[1081]? = some _))) (hts _ (List.mem_of_getElem? (by decide +kernel : lw_tbl[119]? = some _))) (ev_i (hs _ en_cs.1)) hA, va_Zqof (hts _ (List.mem_of_getElem? (by decide +kernel : lw_tbl[1101]? = some _))) (hts _ (List.mem_of_getElem? (by decide +kernel : lw_tbl[121]? = some _))) (hs _ en_cs.2) hA⟩
theorem arr_start {args : Array Value} {s : State} {ty : FieldType} (h : (Cond.arrayClass ty).before args s = true) (hno : ∀ C, ty ≠ .object C) : ∃ c : ClassId, ArrOfT s c ty ∧ va_RA s c ty := by
  obtain ⟨c, k, comp, f1, f2, f3⟩ := Cond.arrayClass_spec h
  refine ⟨c, fun N z => ⟨(fun k h => by cases h), k, f2, comp, f3⟩, ?_⟩
  cases ty <;> first | exact f1 | exact absurd rfl (hno _)
theorem arr_startO {args : Array Value} {s : State} {C : String} (h : (Cond.arrayOver (.object C)).before args s = true) : ∃ c : ClassId, ArrOfT s c (.object C) ∧ va_RA s c (.object C) := by
  obtain ⟨comp, c, k, f1, f2, f3, f4, f5⟩ := Cond.arrayOver_spec h
  exact ⟨c, fun N z => ⟨(fun k h => by cases h), k, f3, comp, f4⟩, k, comp, f3, f4, f1, f5⟩
set_option maxHeartbeats 4000000 in
theorem world_start {args : Array Value} {s : State} (hts : ∀ w ∈ lw_tbl, w.before args s = true) : ∃ w : dnWd, va_K w.1 vwCl (dnTys w) s := by
  obtain ⟨c0, i0, hKn0⟩ := u_known (C := RX1) (T := TX1) (N := 4) (n := 4) hts (fun w h => (List.mem_filter.mp (ct_0 w h)).1) (hts _ (List.mem_filter.mp ki_0).1)
  obtain ⟨c1, i1, hKn1⟩ := u_known (C := RX2) (T := TX2) (N := 3) (n := 3) hts (fun w h => (List.mem_filter.mp (ct_1 w h)).1) (hts _ (List.mem_filter.mp ki_1).1)
  obtain ⟨c2, i2, hKn2⟩ := u_known (C := RX3) (T := TX3) (N := 4) (n := 4) hts (fun w h => (List.mem_filter.mp (ct_2 w h)).1) (hts _ (List.mem_filter.mp ki_2).1)
  obtain ⟨c3, i3, hKn3⟩ := u_known (C := RX4) (T := TX4) (N := 6) (n := 6) hts (fun w h => (List.mem_filter.mp (ct_3 w h)).1) (hts _ (List.mem_filter.mp ki_3).1)
  obtain ⟨c4, i4, hKn4⟩ := u_known (C := RX5) (T := TX5) (N := 6) (n := 6) hts (fun w h => (List.mem_filter.mp (ct_4 w h)).1) (hts _ (List.mem_filter.mp ki_4).1)
  obtain ⟨c5, i5, hKn5⟩ := u_known (C := RX6) (T := TX6) (N := 4) (n := 4) hts (fun w h => (List.mem_filter.mp (ct_5 w h)).1) (hts _ (List.mem_filter.mp ki_5).1)
  obtain ⟨c6, i6, hKn6⟩ := u_known (C := RX7) (T := TX7) (N := 7) (n := 7) hts (fun w h => (List.mem_filter.mp (ct_6 w h)).1) (hts _ (List.mem_filter.mp ki_6).1)
  obtain ⟨c7, i7, hKn7⟩ := u_known (C := RX9) (T := TX9) (N := 3) (n := 3) hts (fun w h => (List.mem_filter.mp (ct_7 w h)).1) (hts _ (List.mem_filter.mp ki_7).1)
  obtain ⟨c8, i8, hKn8⟩ := u_known (C := RX10) (T := TX10) (N := 6) (n := 6) hts (fun w h => (List.mem_filter.mp (ct_8 w h)).1) (hts _ (List.mem_filter.mp ki_8).1)
  obtain ⟨c9, i9, hKn9⟩ := u_known (C := RX11) (T := TX11) (N := 2) (n := 2) hts (fun w h => (List.mem_filter.mp (ct_9 w h)).1) (hts _ (List.mem_filter.mp ki_9).1)
  obtain ⟨c10, i10, hKn10⟩ := u_known (C := RX12) (T := TX12) (N := 12) (n := 12) hts (fun w h => (List.mem_filter.mp (ct_10 w h)).1) (hts _ (List.mem_filter.mp ki_10).1)
  obtain ⟨c11, i11, hKn11⟩ := u_known (C := RX13) (T := TX13) (N := 46) (n := 46) hts (fun w h => (List.mem_filter.mp (ct_11 w h)).1) (hts _ (List.mem_filter.mp ki_11).1)
  obtain ⟨a0, g0, r0⟩ := arr_start (hts _ (List.mem_filter.mp ka_int).1) (fun C h => by cases h)
  obtain ⟨a1, g1, r1⟩ := arr_start (hts _ (List.mem_filter.mp ka_char).1) (fun C h => by cases h)
  obtain ⟨a2, g2, r2⟩ := arr_start (hts _ (List.mem_filter.mp ka_long).1) (fun C h => by cases h)
  obtain ⟨a3, g3, r3⟩ := arr_start (hts _ (List.mem_filter.mp ka_double).1) (fun C h => by cases h)
  obtain ⟨a4, g4, r4⟩ := arr_startO (C := RX5) (hts _ (List.mem_of_getElem? (by decide +kernel : lw_tbl[140]? = some _)))
  obtain ⟨a5, g5, r5⟩ := arr_startO (C := RX9) (hts _ (List.mem_of_getElem? (by decide +kernel : lw_tbl[204]? = some _)))
  refine ⟨((fun k => ([c0, c1, c2, c3, c4, c5, c6, c7, c8, c9, c10, c11] : List ClassId).getD k 0, fun k => ([i0, i1, i2, i3, i4, i5, i6, i7, i8, i9, i10, i11] : List (Nat → Nat)).getD k (fun _ => 0)), fun t => ([a0, a1, a2, a3, a4, a5] : List ClassId).getD (t - 100) 0), fun k q hq => ?_, fun k q hq => ?_⟩
  · match k, hq with
    | 0, hq => cases hq; exact hKn0
    | 1, hq => cases hq; exact hKn1
    | 2, hq => cases hq; exact hKn2
    | 3, hq => cases hq; exact hKn3
    | 4, hq => cases hq; exact hKn4
    | 5, hq => cases hq; exact hKn5
    | 6, hq => cases hq; exact hKn6
    | 7, hq => cases hq; exact hKn7
    | 8, hq => cases hq; exact hKn8
    | 9, hq => cases hq; exact hKn9
    | 10, hq => cases hq; exact hKn10
    | 11, hq => cases hq; exact hKn11
    | k + 12, hq => simp [vwCl] at hq
  · match k, hq with
    | 0, hq => cases hq; exact ⟨g0, r0⟩
    | 1, hq => cases hq; exact ⟨g1, r1⟩
    | 2, hq => cases hq; exact ⟨g2, r2⟩
    | 3, hq => cases hq; exact ⟨g3, r3⟩
    | 4, hq => cases hq; exact ⟨g4, r4⟩
    | 5, hq => cases hq; exact ⟨g5, r5⟩
    | k + 6, hq => simp [dnTys] at hq
def dnH0 : dnH := ([], fun _ _ => 0, fun _ _ => 0, fun _ _ => 0, fun _ _ => none)
