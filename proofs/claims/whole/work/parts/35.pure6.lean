/-! PURE 6: fills, copies; a row begun, copied, made of one value -/
def flI (h : dnH) (a n : Nat) (v : Int32) : dnH := (h.1, dnUpA h.2.1 a (fun k => if k < n then v else h.2.1 a k), h.2.2)
def flL (h : dnH) (a n : Nat) (v : Int64) : dnH := (h.1, h.2.1, dnUpA h.2.2.1 a (fun k => if k < n then v else h.2.2.1 a k), h.2.2.2)
def flD (h : dnH) (a n : Nat) (v : UInt64) : dnH := (h.1, h.2.1, h.2.2.1, dnUpA h.2.2.2.1 a (fun k => if k < n then v else h.2.2.2.1 a k), h.2.2.2.2)
theorem fi_z {α : Type} {f : Nat → Nat → α} {a : Nat} {v : α} : dnUpA f a (fun k => if k < 0 then v else f a k) = f := by
  funext x y
  unfold dnUpA
  split
  · rename_i hx
    rw [hx]
    simp
  · rfl
theorem fi_s {α : Type} {f : Nat → Nat → α} {a n : Nat} {v : α} : dnUp (dnUpA f a (fun k => if k < n then v else f a k)) a n v = dnUpA f a (fun k => if k < n + 1 then v else f a k) := by
  funext x y
  unfold dnUp dnUpA
  by_cases hx : x = a
  · by_cases hy : y = n
    · simp [hx, hy]
    · simp only [hx, hy, and_false, if_false, if_true]
      by_cases h2 : y < n
      · rw [if_pos h2, if_pos (by omega)]
      · rw [if_neg h2, if_neg (by omega)]
  · simp [hx]
theorem fillI {h : dnH} {a n : Nat} {v : Int32} (hk : h.1[a]? = some (100, n)) (hn : n < 1000) : fJ7_fill_53178 (some a) v h = some ((), flI h a n v) := by
  have key : dnIt 1000 (fJ7_fill_53178_b5 (some a) v (Int32.ofNat n)) (nI 0) h = some ((), flI h a n v) := by
    have h0 : flI h a 0 v = h := by unfold flI; rw [fi_z]
    have := dnIt_run (f := fJ7_fill_53178_b5 (some a) v (Int32.ofNat n)) (q := ()) (hq := flI h a n v) n 1000 (fun i => (nI i, flI h a i v)) hn ?_ ?_
    · simpa only [h0] using this
    · intro i hi
      have hc : ¬ (Int32.ofNat n ≤ nI i) := fun hc => by have := (nI_leI (a := n) (b := i) (by omega) (by omega)).mp hc; omega
      have hk2 : dnAt (flI h a i v) (some a) 100 = some (a, n) := dnAt_ok hk
      simp only [fJ7_fill_53178_b5, if_neg hc, dnB_eval, dnTI, hk2, dnIn_nI hi (by omega), if_true, nI_clamp (show i < 2 ^ 31 by omega), dnP, nI_1]
      unfold dnSI flI
      rw [fi_s]
    · have hc : (Int32.ofNat n ≤ nI n) := (nI_leI (a := n) (b := n) (by omega) (by omega)).mpr (Nat.le_refl _)
      simp only [fJ7_fill_53178_b5, if_pos hc, dnP]
  have hl : dnLn (some a) 100 h = some (Int32.ofNat n, h) := by simp only [dnLn, dnAt_ok hk, Option.map_some]
  rw [nI_0] at key
  simp only [fJ7_fill_53178, dnB_eval, hl, key, dnP]
theorem fillL {h : dnH} {a n : Nat} {v : Int64} (hk : h.1[a]? = some (102, n)) (hn : n < 1000) : fJ7_fill_d0a16 (some a) v h = some ((), flL h a n v) := by
  have key : dnIt 1000 (fJ7_fill_d0a16_b6 (some a) v (Int32.ofNat n)) (nI 0) h = some ((), flL h a n v) := by
    have h0 : flL h a 0 v = h := by unfold flL; rw [fi_z]
    have := dnIt_run (f := fJ7_fill_d0a16_b6 (some a) v (Int32.ofNat n)) (q := ()) (hq := flL h a n v) n 1000 (fun i => (nI i, flL h a i v)) hn ?_ ?_
    · simpa only [h0] using this
    · intro i hi
      have hc : ¬ (Int32.ofNat n ≤ nI i) := fun hc => by have := (nI_leI (a := n) (b := i) (by omega) (by omega)).mp hc; omega
      have hk2 : dnAt (flL h a i v) (some a) 102 = some (a, n) := dnAt_ok hk
      simp only [fJ7_fill_d0a16_b6, if_neg hc, dnB_eval, dnTL, hk2, dnIn_nI hi (by omega), if_true, nI_clamp (show i < 2 ^ 31 by omega), dnP, nI_1]
      unfold dnSL flL
      rw [fi_s]
    · have hc : (Int32.ofNat n ≤ nI n) := (nI_leI (a := n) (b := n) (by omega) (by omega)).mpr (Nat.le_refl _)
      simp only [fJ7_fill_d0a16_b6, if_pos hc, dnP]
  have hl : dnLn (some a) 102 h = some (Int32.ofNat n, h) := by simp only [dnLn, dnAt_ok hk, Option.map_some]
  rw [nI_0] at key
  simp only [fJ7_fill_d0a16, dnB_eval, hl, key, dnP]
theorem fillD {h : dnH} {a n : Nat} {v : UInt64} (hk : h.1[a]? = some (103, n)) (hn : n < 1000) : fJ7_fill_7f8df (some a) v h = some ((), flD h a n v) := by
  have key : dnIt 1000 (fJ7_fill_7f8df_b6 (some a) v (Int32.ofNat n)) (nI 0) h = some ((), flD h a n v) := by
    have h0 : flD h a 0 v = h := by unfold flD; rw [fi_z]
    have := dnIt_run (f := fJ7_fill_7f8df_b6 (some a) v (Int32.ofNat n)) (q := ()) (hq := flD h a n v) n 1000 (fun i => (nI i, flD h a i v)) hn ?_ ?_
    · simpa only [h0] using this
    · intro i hi
      have hc : ¬ (Int32.ofNat n ≤ nI i) := fun hc => by have := (nI_leI (a := n) (b := i) (by omega) (by omega)).mp hc; omega
      have hk2 : dnAt (flD h a i v) (some a) 103 = some (a, n) := dnAt_ok hk
      simp only [fJ7_fill_7f8df_b6, if_neg hc, dnB_eval, dnTD, hk2, dnIn_nI hi (by omega), if_true, nI_clamp (show i < 2 ^ 31 by omega), dnP, nI_1]
      unfold dnSD flD
      rw [fi_s]
    · have hc : (Int32.ofNat n ≤ nI n) := (nI_leI (a := n) (b := n) (by omega) (by omega)).mpr (Nat.le_refl _)
      simp only [fJ7_fill_7f8df_b6, if_pos hc, dnP]
  have hl : dnLn (some a) 103 h = some (Int32.ofNat n, h) := by simp only [dnLn, dnAt_ok hk, Option.map_some]
  rw [nI_0] at key
  simp only [fJ7_fill_7f8df, dnB_eval, hl, key, dnP]
/-- a row object begun: its kind, its length, all cells anew -/
def rowBeg (h : dnH) (a : Nat) (kd : Nat) (n : Int32) : dnH := flD (flL (flI (dnSI (dnSI h a 1 (nI kd)) a 2 n) (a + 1) 12 (nI (if kd < 8 then kd else 11))) (a + 2) 12 0) (a + 3) 12 FP.dconst0
theorem begin_c {h : dnH} {a kd : Nat} (ha : RowAt h a) (hkd : kd < 12) (n : Int32) : fX5_begin (some a) (nI kd) n h = some ((), rowBeg h a kd n) := by
  have h8 : (8 ≤ nI kd) ↔ ¬ kd < 8 := (by decide +kernel : ∀ s, s < 12 → ((8 ≤ nI s) ↔ ¬ s < 8)) kd hkd
  have key : ∀ v : Int32, fX5_begin_j26 (some a) (some (a + 1)) v (dnSI (dnSI h a 1 (nI kd)) a 2 n) = some ((), flD (flL (flI (dnSI (dnSI h a 1 (nI kd)) a 2 n) (a + 1) 12 v) (a + 2) 12 0) (a + 3) 12 FP.dconst0) := by
    intro v
    simp only [fX5_begin_j26, dnB_eval, fillI (show (dnSI (dnSI h a 1 (nI kd)) a 2 n).1[a + 1]? = some (100, 12) from ha.2.1) (by decide), rg_4 (show RowAt (flI (dnSI (dnSI h a 1 (nI kd)) a 2 n) (a + 1) 12 v) a from ha), fillL (show (flI (dnSI (dnSI h a 1 (nI kd)) a 2 n) (a + 1) 12 v).1[a + 2]? = some (102, 12) from ha.2.2.1) (by decide), rg_5 (show RowAt (flL (flI (dnSI (dnSI h a 1 (nI kd)) a 2 n) (a + 1) 12 v) (a + 2) 12 0) a from ha), fillD (show (flL (flI (dnSI (dnSI h a 1 (nI kd)) a 2 n) (a + 1) 12 v) (a + 2) 12 0).1[a + 3]? = some (103, 12) from ha.2.2.2.1) (by decide), dnP]
  simp only [fX5_begin, dnB_eval, rp_i ha, rp_i (show RowAt (dnSI h a 1 (nI kd)) a from ha), rg_3 (show RowAt (dnSI (dnSI h a 1 (nI kd)) a 2 n) a from ha), h8]
  unfold rowBeg
  by_cases c : kd < 8
  · rw [if_neg (Decidable.not_not.mpr c), if_pos c]
    exact key _
  · rw [if_pos c, if_neg c]
    exact key _
