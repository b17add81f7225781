/-! PURE 1: the layout, and what each access of it does -/
theorem dnB_some {α β : Type} {x : dnM α} {f : α → dnM β} {h : dnH} {a : α} {h1 : dnH} (e : x h = some (a, h1)) : dnB x f h = f a h1 := by
  unfold dnB
  rw [e]
def ptK : List (Nat × Nat × Nat) := [(0, 10, 0), (257, 105, 2), (258, 1, 0), (259, 5, 0), (268, 9, 0), (269, 8, 0), (270, 6, 0), (271, 102, 12), (272, 102, 12), (273, 102, 12), (274, 3, 0), (279, 100, 72), (280, 100, 72), (281, 2, 0), (282, 101, 80), (283, 100, 8), (284, 100, 40), (285, 0, 0), (286, 100, 6), (287, 100, 6), (288, 100, 11), (289, 11, 0), (290, 100, 11), (291, 100, 4), (292, 100, 24), (293, 100, 32), (294, 100, 32), (295, 100, 32), (296, 100, 384), (297, 102, 384), (298, 103, 384), (299, 100, 12), (300, 102, 12), (301, 103, 12), (302, 100, 6), (303, 102, 12), (304, 100, 12), (305, 102, 12), (306, 100, 12), (307, 100, 72), (308, 100, 3), (309, 100, 12), (310, 100, 72), (311, 100, 96), (312, 100, 96), (313, 100, 1152), (314, 102, 1152), (315, 103, 1152), (316, 100, 80), (317, 100, 8), (318, 100, 40), (319, 100, 6), (320, 100, 6)]
def ptR : List (Nat × Nat × Nat) := [(0, 0, 1), (0, 1, 129), (0, 2, 257), (0, 3, 258), (0, 4, 259), (0, 5, 268), (0, 6, 269), (0, 7, 270), (0, 8, 274), (0, 9, 281), (0, 10, 285), (0, 11, 288), (259, 0, 1), (259, 1, 258), (259, 2, 260), (259, 3, 264), (268, 0, 1), (268, 1, 258), (269, 0, 1), (269, 1, 258), (270, 0, 1), (270, 1, 258), (270, 2, 271), (270, 3, 272), (270, 4, 273), (274, 0, 1), (274, 1, 258), (274, 2, 275), (274, 3, 279), (274, 5, 280), (281, 0, 282), (281, 2, 283), (281, 3, 284), (285, 0, 258), (285, 1, 286), (285, 2, 287), (289, 0, 290), (289, 4, 291), (289, 5, 292), (289, 6, 293), (289, 7, 294), (289, 8, 295), (289, 9, 296), (289, 10, 297), (289, 11, 298), (289, 15, 299), (289, 16, 300), (289, 17, 301), (289, 18, 302), (289, 22, 303), (289, 23, 304), (289, 24, 305), (289, 25, 306), (289, 26, 307), (289, 28, 308), (289, 29, 309), (289, 30, 310), (289, 31, 311), (289, 32, 312), (289, 33, 313), (289, 34, 314), (289, 35, 315), (289, 36, 316), (289, 41, 317), (289, 42, 318), (289, 44, 319), (289, 45, 320)]
/-- a row object and its three arrays -/
def RowAt (h : dnH) (a : Nat) : Prop := h.1[a]? = some (4, 0) ∧ h.1[a + 1]? = some (100, 12) ∧ h.1[a + 2]? = some (102, 12) ∧ h.1[a + 3]? = some (103, 12) ∧ h.2.2.2.2 a 3 = some (a + 1) ∧ h.2.2.2.2 a 4 = some (a + 2) ∧ h.2.2.2.2 a 5 = some (a + 3)
/-- a store and its rows -/
def StAt (h : dnH) (s : Nat) : Prop := (h.1[s]? = some (7, 0) ∧ h.1[s + 1]? = some (100, 5) ∧ h.1[s + 2]? = some (100, 30) ∧ h.1[s + 3]? = some (104, 31)) ∧ (h.2.2.2.2 s 0 = some (s + 1) ∧ h.2.2.2.2 s 1 = some (s + 2) ∧ h.2.2.2.2 s 2 = some (s + 3)) ∧ ∀ n, n < 31 → h.2.2.2.2 (s + 3) n = some (s + 4 + 4 * n) ∧ RowAt h (s + 4 + 4 * n)
def Sh (h : dnH) : Prop := (∀ q ∈ ptK, h.1[q.1]? = some q.2) ∧ (∀ q ∈ ptR, h.2.2.2.2 q.1 q.2.1 = some q.2.2) ∧ StAt h 1 ∧ StAt h 129 ∧ RowAt h 260 ∧ RowAt h 264 ∧ RowAt h 275
theorem Sh_SI {h : dnH} {a k : Nat} {v : Int32} : Sh (dnSI h a k v) ↔ Sh h := Iff.rfl
theorem Sh_SL {h : dnH} {a k : Nat} {v : Int64} : Sh (dnSL h a k v) ↔ Sh h := Iff.rfl
theorem Sh_SD {h : dnH} {a k : Nat} {v : UInt64} : Sh (dnSD h a k v) ↔ Sh h := Iff.rfl
theorem dnAt_ok {h : dnH} {a t n : Nat} (hk : h.1[a]? = some (t, n)) : dnAt h (some a) t = some (a, n) := by simp [dnAt, hk]
theorem k_0 {h : dnH} (hs : Sh h) : dnAt h (some 0) 10 = some (0, 0) := dnAt_ok (hs.1 (0, 10, 0) (by decide))
theorem c_0 {h : dnH} (hs : Sh h) : dnCk (some 0) 10 h = some ((), h) := by simp only [dnCk, k_0 hs, Option.map_some]
theorem v_0 {h : dnH} {α : Type} {X : dnM α} (hs : Sh h) : dnCv (some 0) 10 X h = X h := by simp only [dnCv, dnB, c_0 hs]
theorem k_257 {h : dnH} (hs : Sh h) : dnAt h (some 257) 105 = some (257, 2) := dnAt_ok (hs.1 (257, 105, 2) (by decide))
theorem k_258 {h : dnH} (hs : Sh h) : dnAt h (some 258) 1 = some (258, 0) := dnAt_ok (hs.1 (258, 1, 0) (by decide))
theorem c_258 {h : dnH} (hs : Sh h) : dnCk (some 258) 1 h = some ((), h) := by simp only [dnCk, k_258 hs, Option.map_some]
theorem v_258 {h : dnH} {α : Type} {X : dnM α} (hs : Sh h) : dnCv (some 258) 1 X h = X h := by simp only [dnCv, dnB, c_258 hs]
theorem k_259 {h : dnH} (hs : Sh h) : dnAt h (some 259) 5 = some (259, 0) := dnAt_ok (hs.1 (259, 5, 0) (by decide))
theorem c_259 {h : dnH} (hs : Sh h) : dnCk (some 259) 5 h = some ((), h) := by simp only [dnCk, k_259 hs, Option.map_some]
theorem v_259 {h : dnH} {α : Type} {X : dnM α} (hs : Sh h) : dnCv (some 259) 5 X h = X h := by simp only [dnCv, dnB, c_259 hs]
theorem k_268 {h : dnH} (hs : Sh h) : dnAt h (some 268) 9 = some (268, 0) := dnAt_ok (hs.1 (268, 9, 0) (by decide))
theorem c_268 {h : dnH} (hs : Sh h) : dnCk (some 268) 9 h = some ((), h) := by simp only [dnCk, k_268 hs, Option.map_some]
theorem v_268 {h : dnH} {α : Type} {X : dnM α} (hs : Sh h) : dnCv (some 268) 9 X h = X h := by simp only [dnCv, dnB, c_268 hs]
theorem k_269 {h : dnH} (hs : Sh h) : dnAt h (some 269) 8 = some (269, 0) := dnAt_ok (hs.1 (269, 8, 0) (by decide))
theorem c_269 {h : dnH} (hs : Sh h) : dnCk (some 269) 8 h = some ((), h) := by simp only [dnCk, k_269 hs, Option.map_some]
theorem v_269 {h : dnH} {α : Type} {X : dnM α} (hs : Sh h) : dnCv (some 269) 8 X h = X h := by simp only [dnCv, dnB, c_269 hs]
theorem k_270 {h : dnH} (hs : Sh h) : dnAt h (some 270) 6 = some (270, 0) := dnAt_ok (hs.1 (270, 6, 0) (by decide))
theorem c_270 {h : dnH} (hs : Sh h) : dnCk (some 270) 6 h = some ((), h) := by simp only [dnCk, k_270 hs, Option.map_some]
theorem v_270 {h : dnH} {α : Type} {X : dnM α} (hs : Sh h) : dnCv (some 270) 6 X h = X h := by simp only [dnCv, dnB, c_270 hs]
theorem k_271 {h : dnH} (hs : Sh h) : dnAt h (some 271) 102 = some (271, 12) := dnAt_ok (hs.1 (271, 102, 12) (by decide))
theorem a_271 {h : dnH} (hs : Sh h) (i : Int32) : dnAL (some 271) 102 i h = if dnIn i 12 = true then some (h.2.2.1 271 i.toNatClampNeg, h) else none := by simp only [dnAL, k_271 hs]
theorem t_271 {h : dnH} (hs : Sh h) (i : Int32) (v : Int64) : dnTL (some 271) 102 i v h = if dnIn i 12 = true then some ((), dnSL h 271 i.toNatClampNeg v) else none := by simp only [dnTL, k_271 hs]
theorem k_272 {h : dnH} (hs : Sh h) : dnAt h (some 272) 102 = some (272, 12) := dnAt_ok (hs.1 (272, 102, 12) (by decide))
theorem a_272 {h : dnH} (hs : Sh h) (i : Int32) : dnAL (some 272) 102 i h = if dnIn i 12 = true then some (h.2.2.1 272 i.toNatClampNeg, h) else none := by simp only [dnAL, k_272 hs]
theorem t_272 {h : dnH} (hs : Sh h) (i : Int32) (v : Int64) : dnTL (some 272) 102 i v h = if dnIn i 12 = true then some ((), dnSL h 272 i.toNatClampNeg v) else none := by simp only [dnTL, k_272 hs]
theorem k_273 {h : dnH} (hs : Sh h) : dnAt h (some 273) 102 = some (273, 12) := dnAt_ok (hs.1 (273, 102, 12) (by decide))
theorem a_273 {h : dnH} (hs : Sh h) (i : Int32) : dnAL (some 273) 102 i h = if dnIn i 12 = true then some (h.2.2.1 273 i.toNatClampNeg, h) else none := by simp only [dnAL, k_273 hs]
theorem t_273 {h : dnH} (hs : Sh h) (i : Int32) (v : Int64) : dnTL (some 273) 102 i v h = if dnIn i 12 = true then some ((), dnSL h 273 i.toNatClampNeg v) else none := by simp only [dnTL, k_273 hs]
theorem k_274 {h : dnH} (hs : Sh h) : dnAt h (some 274) 3 = some (274, 0) := dnAt_ok (hs.1 (274, 3, 0) (by decide))
theorem c_274 {h : dnH} (hs : Sh h) : dnCk (some 274) 3 h = some ((), h) := by simp only [dnCk, k_274 hs, Option.map_some]
theorem v_274 {h : dnH} {α : Type} {X : dnM α} (hs : Sh h) : dnCv (some 274) 3 X h = X h := by simp only [dnCv, dnB, c_274 hs]
theorem k_279 {h : dnH} (hs : Sh h) : dnAt h (some 279) 100 = some (279, 72) := dnAt_ok (hs.1 (279, 100, 72) (by decide))
theorem a_279 {h : dnH} (hs : Sh h) (i : Int32) : dnAI (some 279) 100 i h = if dnIn i 72 = true then some (h.2.1 279 i.toNatClampNeg, h) else none := by simp only [dnAI, k_279 hs]
theorem t_279 {h : dnH} (hs : Sh h) (i : Int32) (v : Int32) : dnTI (some 279) 100 i v h = if dnIn i 72 = true then some ((), dnSI h 279 i.toNatClampNeg v) else none := by simp only [dnTI, k_279 hs]
theorem k_280 {h : dnH} (hs : Sh h) : dnAt h (some 280) 100 = some (280, 72) := dnAt_ok (hs.1 (280, 100, 72) (by decide))
theorem a_280 {h : dnH} (hs : Sh h) (i : Int32) : dnAI (some 280) 100 i h = if dnIn i 72 = true then some (h.2.1 280 i.toNatClampNeg, h) else none := by simp only [dnAI, k_280 hs]
theorem t_280 {h : dnH} (hs : Sh h) (i : Int32) (v : Int32) : dnTI (some 280) 100 i v h = if dnIn i 72 = true then some ((), dnSI h 280 i.toNatClampNeg v) else none := by simp only [dnTI, k_280 hs]
theorem k_281 {h : dnH} (hs : Sh h) : dnAt h (some 281) 2 = some (281, 0) := dnAt_ok (hs.1 (281, 2, 0) (by decide))
theorem c_281 {h : dnH} (hs : Sh h) : dnCk (some 281) 2 h = some ((), h) := by simp only [dnCk, k_281 hs, Option.map_some]
theorem v_281 {h : dnH} {α : Type} {X : dnM α} (hs : Sh h) : dnCv (some 281) 2 X h = X h := by simp only [dnCv, dnB, c_281 hs]
theorem k_282 {h : dnH} (hs : Sh h) : dnAt h (some 282) 101 = some (282, 80) := dnAt_ok (hs.1 (282, 101, 80) (by decide))
theorem a_282 {h : dnH} (hs : Sh h) (i : Int32) : dnAI (some 282) 101 i h = if dnIn i 80 = true then some (h.2.1 282 i.toNatClampNeg, h) else none := by simp only [dnAI, k_282 hs]
theorem t_282 {h : dnH} (hs : Sh h) (i : Int32) (v : Int32) : dnTI (some 282) 101 i v h = if dnIn i 80 = true then some ((), dnSI h 282 i.toNatClampNeg v) else none := by simp only [dnTI, k_282 hs]
theorem k_283 {h : dnH} (hs : Sh h) : dnAt h (some 283) 100 = some (283, 8) := dnAt_ok (hs.1 (283, 100, 8) (by decide))
theorem a_283 {h : dnH} (hs : Sh h) (i : Int32) : dnAI (some 283) 100 i h = if dnIn i 8 = true then some (h.2.1 283 i.toNatClampNeg, h) else none := by simp only [dnAI, k_283 hs]
theorem t_283 {h : dnH} (hs : Sh h) (i : Int32) (v : Int32) : dnTI (some 283) 100 i v h = if dnIn i 8 = true then some ((), dnSI h 283 i.toNatClampNeg v) else none := by simp only [dnTI, k_283 hs]
theorem k_284 {h : dnH} (hs : Sh h) : dnAt h (some 284) 100 = some (284, 40) := dnAt_ok (hs.1 (284, 100, 40) (by decide))
theorem a_284 {h : dnH} (hs : Sh h) (i : Int32) : dnAI (some 284) 100 i h = if dnIn i 40 = true then some (h.2.1 284 i.toNatClampNeg, h) else none := by simp only [dnAI, k_284 hs]
theorem t_284 {h : dnH} (hs : Sh h) (i : Int32) (v : Int32) : dnTI (some 284) 100 i v h = if dnIn i 40 = true then some ((), dnSI h 284 i.toNatClampNeg v) else none := by simp only [dnTI, k_284 hs]
theorem k_285 {h : dnH} (hs : Sh h) : dnAt h (some 285) 0 = some (285, 0) := dnAt_ok (hs.1 (285, 0, 0) (by decide))
theorem c_285 {h : dnH} (hs : Sh h) : dnCk (some 285) 0 h = some ((), h) := by simp only [dnCk, k_285 hs, Option.map_some]
theorem v_285 {h : dnH} {α : Type} {X : dnM α} (hs : Sh h) : dnCv (some 285) 0 X h = X h := by simp only [dnCv, dnB, c_285 hs]
theorem k_286 {h : dnH} (hs : Sh h) : dnAt h (some 286) 100 = some (286, 6) := dnAt_ok (hs.1 (286, 100, 6) (by decide))
theorem a_286 {h : dnH} (hs : Sh h) (i : Int32) : dnAI (some 286) 100 i h = if dnIn i 6 = true then some (h.2.1 286 i.toNatClampNeg, h) else none := by simp only [dnAI, k_286 hs]
theorem t_286 {h : dnH} (hs : Sh h) (i : Int32) (v : Int32) : dnTI (some 286) 100 i v h = if dnIn i 6 = true then some ((), dnSI h 286 i.toNatClampNeg v) else none := by simp only [dnTI, k_286 hs]
theorem k_287 {h : dnH} (hs : Sh h) : dnAt h (some 287) 100 = some (287, 6) := dnAt_ok (hs.1 (287, 100, 6) (by decide))
theorem a_287 {h : dnH} (hs : Sh h) (i : Int32) : dnAI (some 287) 100 i h = if dnIn i 6 = true then some (h.2.1 287 i.toNatClampNeg, h) else none := by simp only [dnAI, k_287 hs]
theorem t_287 {h : dnH} (hs : Sh h) (i : Int32) (v : Int32) : dnTI (some 287) 100 i v h = if dnIn i 6 = true then some ((), dnSI h 287 i.toNatClampNeg v) else none := by simp only [dnTI, k_287 hs]
theorem k_288 {h : dnH} (hs : Sh h) : dnAt h (some 288) 100 = some (288, 11) := dnAt_ok (hs.1 (288, 100, 11) (by decide))
theorem a_288 {h : dnH} (hs : Sh h) (i : Int32) : dnAI (some 288) 100 i h = if dnIn i 11 = true then some (h.2.1 288 i.toNatClampNeg, h) else none := by simp only [dnAI, k_288 hs]
theorem t_288 {h : dnH} (hs : Sh h) (i : Int32) (v : Int32) : dnTI (some 288) 100 i v h = if dnIn i 11 = true then some ((), dnSI h 288 i.toNatClampNeg v) else none := by simp only [dnTI, k_288 hs]
theorem k_289 {h : dnH} (hs : Sh h) : dnAt h (some 289) 11 = some (289, 0) := dnAt_ok (hs.1 (289, 11, 0) (by decide))
theorem c_289 {h : dnH} (hs : Sh h) : dnCk (some 289) 11 h = some ((), h) := by simp only [dnCk, k_289 hs, Option.map_some]
theorem v_289 {h : dnH} {α : Type} {X : dnM α} (hs : Sh h) : dnCv (some 289) 11 X h = X h := by simp only [dnCv, dnB, c_289 hs]
theorem k_290 {h : dnH} (hs : Sh h) : dnAt h (some 290) 100 = some (290, 11) := dnAt_ok (hs.1 (290, 100, 11) (by decide))
theorem a_290 {h : dnH} (hs : Sh h) (i : Int32) : dnAI (some 290) 100 i h = if dnIn i 11 = true then some (h.2.1 290 i.toNatClampNeg, h) else none := by simp only [dnAI, k_290 hs]
theorem t_290 {h : dnH} (hs : Sh h) (i : Int32) (v : Int32) : dnTI (some 290) 100 i v h = if dnIn i 11 = true then some ((), dnSI h 290 i.toNatClampNeg v) else none := by simp only [dnTI, k_290 hs]
theorem k_291 {h : dnH} (hs : Sh h) : dnAt h (some 291) 100 = some (291, 4) := dnAt_ok (hs.1 (291, 100, 4) (by decide))
theorem a_291 {h : dnH} (hs : Sh h) (i : Int32) : dnAI (some 291) 100 i h = if dnIn i 4 = true then some (h.2.1 291 i.toNatClampNeg, h) else none := by simp only [dnAI, k_291 hs]
theorem t_291 {h : dnH} (hs : Sh h) (i : Int32) (v : Int32) : dnTI (some 291) 100 i v h = if dnIn i 4 = true then some ((), dnSI h 291 i.toNatClampNeg v) else none := by simp only [dnTI, k_291 hs]
theorem k_292 {h : dnH} (hs : Sh h) : dnAt h (some 292) 100 = some (292, 24) := dnAt_ok (hs.1 (292, 100, 24) (by decide))
theorem a_292 {h : dnH} (hs : Sh h) (i : Int32) : dnAI (some 292) 100 i h = if dnIn i 24 = true then some (h.2.1 292 i.toNatClampNeg, h) else none := by simp only [dnAI, k_292 hs]
theorem t_292 {h : dnH} (hs : Sh h) (i : Int32) (v : Int32) : dnTI (some 292) 100 i v h = if dnIn i 24 = true then some ((), dnSI h 292 i.toNatClampNeg v) else none := by simp only [dnTI, k_292 hs]
theorem k_293 {h : dnH} (hs : Sh h) : dnAt h (some 293) 100 = some (293, 32) := dnAt_ok (hs.1 (293, 100, 32) (by decide))
theorem a_293 {h : dnH} (hs : Sh h) (i : Int32) : dnAI (some 293) 100 i h = if dnIn i 32 = true then some (h.2.1 293 i.toNatClampNeg, h) else none := by simp only [dnAI, k_293 hs]
theorem t_293 {h : dnH} (hs : Sh h) (i : Int32) (v : Int32) : dnTI (some 293) 100 i v h = if dnIn i 32 = true then some ((), dnSI h 293 i.toNatClampNeg v) else none := by simp only [dnTI, k_293 hs]
theorem k_294 {h : dnH} (hs : Sh h) : dnAt h (some 294) 100 = some (294, 32) := dnAt_ok (hs.1 (294, 100, 32) (by decide))
theorem a_294 {h : dnH} (hs : Sh h) (i : Int32) : dnAI (some 294) 100 i h = if dnIn i 32 = true then some (h.2.1 294 i.toNatClampNeg, h) else none := by simp only [dnAI, k_294 hs]
theorem t_294 {h : dnH} (hs : Sh h) (i : Int32) (v : Int32) : dnTI (some 294) 100 i v h = if dnIn i 32 = true then some ((), dnSI h 294 i.toNatClampNeg v) else none := by simp only [dnTI, k_294 hs]
theorem k_295 {h : dnH} (hs : Sh h) : dnAt h (some 295) 100 = some (295, 32) := dnAt_ok (hs.1 (295, 100, 32) (by decide))
theorem a_295 {h : dnH} (hs : Sh h) (i : Int32) : dnAI (some 295) 100 i h = if dnIn i 32 = true then some (h.2.1 295 i.toNatClampNeg, h) else none := by simp only [dnAI, k_295 hs]
theorem t_295 {h : dnH} (hs : Sh h) (i : Int32) (v : Int32) : dnTI (some 295) 100 i v h = if dnIn i 32 = true then some ((), dnSI h 295 i.toNatClampNeg v) else none := by simp only [dnTI, k_295 hs]
theorem k_296 {h : dnH} (hs : Sh h) : dnAt h (some 296) 100 = some (296, 384) := dnAt_ok (hs.1 (296, 100, 384) (by decide))
theorem a_296 {h : dnH} (hs : Sh h) (i : Int32) : dnAI (some 296) 100 i h = if dnIn i 384 = true then some (h.2.1 296 i.toNatClampNeg, h) else none := by simp only [dnAI, k_296 hs]
theorem t_296 {h : dnH} (hs : Sh h) (i : Int32) (v : Int32) : dnTI (some 296) 100 i v h = if dnIn i 384 = true then some ((), dnSI h 296 i.toNatClampNeg v) else none := by simp only [dnTI, k_296 hs]
theorem k_297 {h : dnH} (hs : Sh h) : dnAt h (some 297) 102 = some (297, 384) := dnAt_ok (hs.1 (297, 102, 384) (by decide))
theorem a_297 {h : dnH} (hs : Sh h) (i : Int32) : dnAL (some 297) 102 i h = if dnIn i 384 = true then some (h.2.2.1 297 i.toNatClampNeg, h) else none := by simp only [dnAL, k_297 hs]
theorem t_297 {h : dnH} (hs : Sh h) (i : Int32) (v : Int64) : dnTL (some 297) 102 i v h = if dnIn i 384 = true then some ((), dnSL h 297 i.toNatClampNeg v) else none := by simp only [dnTL, k_297 hs]
theorem k_298 {h : dnH} (hs : Sh h) : dnAt h (some 298) 103 = some (298, 384) := dnAt_ok (hs.1 (298, 103, 384) (by decide))
theorem a_298 {h : dnH} (hs : Sh h) (i : Int32) : dnAD (some 298) 103 i h = if dnIn i 384 = true then some (h.2.2.2.1 298 i.toNatClampNeg, h) else none := by simp only [dnAD, k_298 hs]
theorem t_298 {h : dnH} (hs : Sh h) (i : Int32) (v : UInt64) : dnTD (some 298) 103 i v h = if dnIn i 384 = true then some ((), dnSD h 298 i.toNatClampNeg v) else none := by simp only [dnTD, k_298 hs]
theorem k_299 {h : dnH} (hs : Sh h) : dnAt h (some 299) 100 = some (299, 12) := dnAt_ok (hs.1 (299, 100, 12) (by decide))
theorem a_299 {h : dnH} (hs : Sh h) (i : Int32) : dnAI (some 299) 100 i h = if dnIn i 12 = true then some (h.2.1 299 i.toNatClampNeg, h) else none := by simp only [dnAI, k_299 hs]
theorem t_299 {h : dnH} (hs : Sh h) (i : Int32) (v : Int32) : dnTI (some 299) 100 i v h = if dnIn i 12 = true then some ((), dnSI h 299 i.toNatClampNeg v) else none := by simp only [dnTI, k_299 hs]
theorem k_300 {h : dnH} (hs : Sh h) : dnAt h (some 300) 102 = some (300, 12) := dnAt_ok (hs.1 (300, 102, 12) (by decide))
theorem a_300 {h : dnH} (hs : Sh h) (i : Int32) : dnAL (some 300) 102 i h = if dnIn i 12 = true then some (h.2.2.1 300 i.toNatClampNeg, h) else none := by simp only [dnAL, k_300 hs]
theorem t_300 {h : dnH} (hs : Sh h) (i : Int32) (v : Int64) : dnTL (some 300) 102 i v h = if dnIn i 12 = true then some ((), dnSL h 300 i.toNatClampNeg v) else none := by simp only [dnTL, k_300 hs]
theorem k_301 {h : dnH} (hs : Sh h) : dnAt h (some 301) 103 = some (301, 12) := dnAt_ok (hs.1 (301, 103, 12) (by decide))
theorem a_301 {h : dnH} (hs : Sh h) (i : Int32) : dnAD (some 301) 103 i h = if dnIn i 12 = true then some (h.2.2.2.1 301 i.toNatClampNeg, h) else none := by simp only [dnAD, k_301 hs]
theorem t_301 {h : dnH} (hs : Sh h) (i : Int32) (v : UInt64) : dnTD (some 301) 103 i v h = if dnIn i 12 = true then some ((), dnSD h 301 i.toNatClampNeg v) else none := by simp only [dnTD, k_301 hs]
theorem k_302 {h : dnH} (hs : Sh h) : dnAt h (some 302) 100 = some (302, 6) := dnAt_ok (hs.1 (302, 100, 6) (by decide))
theorem a_302 {h : dnH} (hs : Sh h) (i : Int32) : dnAI (some 302) 100 i h = if dnIn i 6 = true then some (h.2.1 302 i.toNatClampNeg, h) else none := by simp only [dnAI, k_302 hs]
theorem t_302 {h : dnH} (hs : Sh h) (i : Int32) (v : Int32) : dnTI (some 302) 100 i v h = if dnIn i 6 = true then some ((), dnSI h 302 i.toNatClampNeg v) else none := by simp only [dnTI, k_302 hs]
theorem k_303 {h : dnH} (hs : Sh h) : dnAt h (some 303) 102 = some (303, 12) := dnAt_ok (hs.1 (303, 102, 12) (by decide))
theorem a_303 {h : dnH} (hs : Sh h) (i : Int32) : dnAL (some 303) 102 i h = if dnIn i 12 = true then some (h.2.2.1 303 i.toNatClampNeg, h) else none := by simp only [dnAL, k_303 hs]
theorem t_303 {h : dnH} (hs : Sh h) (i : Int32) (v : Int64) : dnTL (some 303) 102 i v h = if dnIn i 12 = true then some ((), dnSL h 303 i.toNatClampNeg v) else none := by simp only [dnTL, k_303 hs]
theorem k_304 {h : dnH} (hs : Sh h) : dnAt h (some 304) 100 = some (304, 12) := dnAt_ok (hs.1 (304, 100, 12) (by decide))
theorem a_304 {h : dnH} (hs : Sh h) (i : Int32) : dnAI (some 304) 100 i h = if dnIn i 12 = true then some (h.2.1 304 i.toNatClampNeg, h) else none := by simp only [dnAI, k_304 hs]
theorem t_304 {h : dnH} (hs : Sh h) (i : Int32) (v : Int32) : dnTI (some 304) 100 i v h = if dnIn i 12 = true then some ((), dnSI h 304 i.toNatClampNeg v) else none := by simp only [dnTI, k_304 hs]
theorem k_305 {h : dnH} (hs : Sh h) : dnAt h (some 305) 102 = some (305, 12) := dnAt_ok (hs.1 (305, 102, 12) (by decide))
theorem a_305 {h : dnH} (hs : Sh h) (i : Int32) : dnAL (some 305) 102 i h = if dnIn i 12 = true then some (h.2.2.1 305 i.toNatClampNeg, h) else none := by simp only [dnAL, k_305 hs]
theorem t_305 {h : dnH} (hs : Sh h) (i : Int32) (v : Int64) : dnTL (some 305) 102 i v h = if dnIn i 12 = true then some ((), dnSL h 305 i.toNatClampNeg v) else none := by simp only [dnTL, k_305 hs]
theorem k_306 {h : dnH} (hs : Sh h) : dnAt h (some 306) 100 = some (306, 12) := dnAt_ok (hs.1 (306, 100, 12) (by decide))
theorem a_306 {h : dnH} (hs : Sh h) (i : Int32) : dnAI (some 306) 100 i h = if dnIn i 12 = true then some (h.2.1 306 i.toNatClampNeg, h) else none := by simp only [dnAI, k_306 hs]
theorem t_306 {h : dnH} (hs : Sh h) (i : Int32) (v : Int32) : dnTI (some 306) 100 i v h = if dnIn i 12 = true then some ((), dnSI h 306 i.toNatClampNeg v) else none := by simp only [dnTI, k_306 hs]
theorem k_307 {h : dnH} (hs : Sh h) : dnAt h (some 307) 100 = some (307, 72) := dnAt_ok (hs.1 (307, 100, 72) (by decide))
theorem a_307 {h : dnH} (hs : Sh h) (i : Int32) : dnAI (some 307) 100 i h = if dnIn i 72 = true then some (h.2.1 307 i.toNatClampNeg, h) else none := by simp only [dnAI, k_307 hs]
theorem t_307 {h : dnH} (hs : Sh h) (i : Int32) (v : Int32) : dnTI (some 307) 100 i v h = if dnIn i 72 = true then some ((), dnSI h 307 i.toNatClampNeg v) else none := by simp only [dnTI, k_307 hs]
theorem k_308 {h : dnH} (hs : Sh h) : dnAt h (some 308) 100 = some (308, 3) := dnAt_ok (hs.1 (308, 100, 3) (by decide))
theorem a_308 {h : dnH} (hs : Sh h) (i : Int32) : dnAI (some 308) 100 i h = if dnIn i 3 = true then some (h.2.1 308 i.toNatClampNeg, h) else none := by simp only [dnAI, k_308 hs]
theorem t_308 {h : dnH} (hs : Sh h) (i : Int32) (v : Int32) : dnTI (some 308) 100 i v h = if dnIn i 3 = true then some ((), dnSI h 308 i.toNatClampNeg v) else none := by simp only [dnTI, k_308 hs]
theorem k_309 {h : dnH} (hs : Sh h) : dnAt h (some 309) 100 = some (309, 12) := dnAt_ok (hs.1 (309, 100, 12) (by decide))
theorem a_309 {h : dnH} (hs : Sh h) (i : Int32) : dnAI (some 309) 100 i h = if dnIn i 12 = true then some (h.2.1 309 i.toNatClampNeg, h) else none := by simp only [dnAI, k_309 hs]
theorem t_309 {h : dnH} (hs : Sh h) (i : Int32) (v : Int32) : dnTI (some 309) 100 i v h = if dnIn i 12 = true then some ((), dnSI h 309 i.toNatClampNeg v) else none := by simp only [dnTI, k_309 hs]
theorem k_310 {h : dnH} (hs : Sh h) : dnAt h (some 310) 100 = some (310, 72) := dnAt_ok (hs.1 (310, 100, 72) (by decide))
theorem a_310 {h : dnH} (hs : Sh h) (i : Int32) : dnAI (some 310) 100 i h = if dnIn i 72 = true then some (h.2.1 310 i.toNatClampNeg, h) else none := by simp only [dnAI, k_310 hs]
theorem t_310 {h : dnH} (hs : Sh h) (i : Int32) (v : Int32) : dnTI (some 310) 100 i v h = if dnIn i 72 = true then some ((), dnSI h 310 i.toNatClampNeg v) else none := by simp only [dnTI, k_310 hs]
theorem k_311 {h : dnH} (hs : Sh h) : dnAt h (some 311) 100 = some (311, 96) := dnAt_ok (hs.1 (311, 100, 96) (by decide))
theorem a_311 {h : dnH} (hs : Sh h) (i : Int32) : dnAI (some 311) 100 i h = if dnIn i 96 = true then some (h.2.1 311 i.toNatClampNeg, h) else none := by simp only [dnAI, k_311 hs]
theorem t_311 {h : dnH} (hs : Sh h) (i : Int32) (v : Int32) : dnTI (some 311) 100 i v h = if dnIn i 96 = true then some ((), dnSI h 311 i.toNatClampNeg v) else none := by simp only [dnTI, k_311 hs]
theorem k_312 {h : dnH} (hs : Sh h) : dnAt h (some 312) 100 = some (312, 96) := dnAt_ok (hs.1 (312, 100, 96) (by decide))
theorem a_312 {h : dnH} (hs : Sh h) (i : Int32) : dnAI (some 312) 100 i h = if dnIn i 96 = true then some (h.2.1 312 i.toNatClampNeg, h) else none := by simp only [dnAI, k_312 hs]
theorem t_312 {h : dnH} (hs : Sh h) (i : Int32) (v : Int32) : dnTI (some 312) 100 i v h = if dnIn i 96 = true then some ((), dnSI h 312 i.toNatClampNeg v) else none := by simp only [dnTI, k_312 hs]
theorem k_313 {h : dnH} (hs : Sh h) : dnAt h (some 313) 100 = some (313, 1152) := dnAt_ok (hs.1 (313, 100, 1152) (by decide))
theorem a_313 {h : dnH} (hs : Sh h) (i : Int32) : dnAI (some 313) 100 i h = if dnIn i 1152 = true then some (h.2.1 313 i.toNatClampNeg, h) else none := by simp only [dnAI, k_313 hs]
theorem t_313 {h : dnH} (hs : Sh h) (i : Int32) (v : Int32) : dnTI (some 313) 100 i v h = if dnIn i 1152 = true then some ((), dnSI h 313 i.toNatClampNeg v) else none := by simp only [dnTI, k_313 hs]
theorem k_314 {h : dnH} (hs : Sh h) : dnAt h (some 314) 102 = some (314, 1152) := dnAt_ok (hs.1 (314, 102, 1152) (by decide))
theorem a_314 {h : dnH} (hs : Sh h) (i : Int32) : dnAL (some 314) 102 i h = if dnIn i 1152 = true then some (h.2.2.1 314 i.toNatClampNeg, h) else none := by simp only [dnAL, k_314 hs]
theorem t_314 {h : dnH} (hs : Sh h) (i : Int32) (v : Int64) : dnTL (some 314) 102 i v h = if dnIn i 1152 = true then some ((), dnSL h 314 i.toNatClampNeg v) else none := by simp only [dnTL, k_314 hs]
theorem k_315 {h : dnH} (hs : Sh h) : dnAt h (some 315) 103 = some (315, 1152) := dnAt_ok (hs.1 (315, 103, 1152) (by decide))
theorem a_315 {h : dnH} (hs : Sh h) (i : Int32) : dnAD (some 315) 103 i h = if dnIn i 1152 = true then some (h.2.2.2.1 315 i.toNatClampNeg, h) else none := by simp only [dnAD, k_315 hs]
theorem t_315 {h : dnH} (hs : Sh h) (i : Int32) (v : UInt64) : dnTD (some 315) 103 i v h = if dnIn i 1152 = true then some ((), dnSD h 315 i.toNatClampNeg v) else none := by simp only [dnTD, k_315 hs]
theorem k_316 {h : dnH} (hs : Sh h) : dnAt h (some 316) 100 = some (316, 80) := dnAt_ok (hs.1 (316, 100, 80) (by decide))
theorem a_316 {h : dnH} (hs : Sh h) (i : Int32) : dnAI (some 316) 100 i h = if dnIn i 80 = true then some (h.2.1 316 i.toNatClampNeg, h) else none := by simp only [dnAI, k_316 hs]
theorem t_316 {h : dnH} (hs : Sh h) (i : Int32) (v : Int32) : dnTI (some 316) 100 i v h = if dnIn i 80 = true then some ((), dnSI h 316 i.toNatClampNeg v) else none := by simp only [dnTI, k_316 hs]
theorem k_317 {h : dnH} (hs : Sh h) : dnAt h (some 317) 100 = some (317, 8) := dnAt_ok (hs.1 (317, 100, 8) (by decide))
theorem a_317 {h : dnH} (hs : Sh h) (i : Int32) : dnAI (some 317) 100 i h = if dnIn i 8 = true then some (h.2.1 317 i.toNatClampNeg, h) else none := by simp only [dnAI, k_317 hs]
theorem t_317 {h : dnH} (hs : Sh h) (i : Int32) (v : Int32) : dnTI (some 317) 100 i v h = if dnIn i 8 = true then some ((), dnSI h 317 i.toNatClampNeg v) else none := by simp only [dnTI, k_317 hs]
theorem k_318 {h : dnH} (hs : Sh h) : dnAt h (some 318) 100 = some (318, 40) := dnAt_ok (hs.1 (318, 100, 40) (by decide))
theorem a_318 {h : dnH} (hs : Sh h) (i : Int32) : dnAI (some 318) 100 i h = if dnIn i 40 = true then some (h.2.1 318 i.toNatClampNeg, h) else none := by simp only [dnAI, k_318 hs]
theorem t_318 {h : dnH} (hs : Sh h) (i : Int32) (v : Int32) : dnTI (some 318) 100 i v h = if dnIn i 40 = true then some ((), dnSI h 318 i.toNatClampNeg v) else none := by simp only [dnTI, k_318 hs]
theorem k_319 {h : dnH} (hs : Sh h) : dnAt h (some 319) 100 = some (319, 6) := dnAt_ok (hs.1 (319, 100, 6) (by decide))
theorem a_319 {h : dnH} (hs : Sh h) (i : Int32) : dnAI (some 319) 100 i h = if dnIn i 6 = true then some (h.2.1 319 i.toNatClampNeg, h) else none := by simp only [dnAI, k_319 hs]
theorem t_319 {h : dnH} (hs : Sh h) (i : Int32) (v : Int32) : dnTI (some 319) 100 i v h = if dnIn i 6 = true then some ((), dnSI h 319 i.toNatClampNeg v) else none := by simp only [dnTI, k_319 hs]
theorem k_320 {h : dnH} (hs : Sh h) : dnAt h (some 320) 100 = some (320, 6) := dnAt_ok (hs.1 (320, 100, 6) (by decide))
theorem a_320 {h : dnH} (hs : Sh h) (i : Int32) : dnAI (some 320) 100 i h = if dnIn i 6 = true then some (h.2.1 320 i.toNatClampNeg, h) else none := by simp only [dnAI, k_320 hs]
theorem t_320 {h : dnH} (hs : Sh h) (i : Int32) (v : Int32) : dnTI (some 320) 100 i v h = if dnIn i 6 = true then some ((), dnSI h 320 i.toNatClampNeg v) else none := by simp only [dnTI, k_320 hs]
theorem g_0_0 {h : dnH} (hs : Sh h) : dnGR (some 0) 10 0 h = some (some 1, h) := by simp only [dnGR, k_0 hs, Option.map_some, hs.2.1 (0, 0, 1) (by decide)]
theorem g_0_1 {h : dnH} (hs : Sh h) : dnGR (some 0) 10 1 h = some (some 129, h) := by simp only [dnGR, k_0 hs, Option.map_some, hs.2.1 (0, 1, 129) (by decide)]
theorem g_0_2 {h : dnH} (hs : Sh h) : dnGR (some 0) 10 2 h = some (some 257, h) := by simp only [dnGR, k_0 hs, Option.map_some, hs.2.1 (0, 2, 257) (by decide)]
theorem g_0_3 {h : dnH} (hs : Sh h) : dnGR (some 0) 10 3 h = some (some 258, h) := by simp only [dnGR, k_0 hs, Option.map_some, hs.2.1 (0, 3, 258) (by decide)]
theorem g_0_4 {h : dnH} (hs : Sh h) : dnGR (some 0) 10 4 h = some (some 259, h) := by simp only [dnGR, k_0 hs, Option.map_some, hs.2.1 (0, 4, 259) (by decide)]
theorem g_0_5 {h : dnH} (hs : Sh h) : dnGR (some 0) 10 5 h = some (some 268, h) := by simp only [dnGR, k_0 hs, Option.map_some, hs.2.1 (0, 5, 268) (by decide)]
theorem g_0_6 {h : dnH} (hs : Sh h) : dnGR (some 0) 10 6 h = some (some 269, h) := by simp only [dnGR, k_0 hs, Option.map_some, hs.2.1 (0, 6, 269) (by decide)]
theorem g_0_7 {h : dnH} (hs : Sh h) : dnGR (some 0) 10 7 h = some (some 270, h) := by simp only [dnGR, k_0 hs, Option.map_some, hs.2.1 (0, 7, 270) (by decide)]
theorem g_0_8 {h : dnH} (hs : Sh h) : dnGR (some 0) 10 8 h = some (some 274, h) := by simp only [dnGR, k_0 hs, Option.map_some, hs.2.1 (0, 8, 274) (by decide)]
theorem g_0_9 {h : dnH} (hs : Sh h) : dnGR (some 0) 10 9 h = some (some 281, h) := by simp only [dnGR, k_0 hs, Option.map_some, hs.2.1 (0, 9, 281) (by decide)]
theorem g_0_10 {h : dnH} (hs : Sh h) : dnGR (some 0) 10 10 h = some (some 285, h) := by simp only [dnGR, k_0 hs, Option.map_some, hs.2.1 (0, 10, 285) (by decide)]
theorem g_0_11 {h : dnH} (hs : Sh h) : dnGR (some 0) 10 11 h = some (some 288, h) := by simp only [dnGR, k_0 hs, Option.map_some, hs.2.1 (0, 11, 288) (by decide)]
theorem g_258_0 {h : dnH} (hs : Sh h) : dnGL (some 258) 1 0 h = some (h.2.2.1 258 0, h) := by simp only [dnGL, k_258 hs, Option.map_some]
theorem p_258_0 {h : dnH} (hs : Sh h) (v : Int64) : dnPL (some 258) 1 0 v h = some ((), dnSL h 258 0 v) := by simp only [dnPL, k_258 hs, Option.map_some]
theorem g_258_1 {h : dnH} (hs : Sh h) : dnGI (some 258) 1 1 h = some (h.2.1 258 1, h) := by simp only [dnGI, k_258 hs, Option.map_some]
theorem p_258_1 {h : dnH} (hs : Sh h) (v : Int32) : dnPI (some 258) 1 1 v h = some ((), dnSI h 258 1 v) := by simp only [dnPI, k_258 hs, Option.map_some]
theorem g_258_2 {h : dnH} (hs : Sh h) : dnGI (some 258) 1 2 h = some (h.2.1 258 2, h) := by simp only [dnGI, k_258 hs, Option.map_some]
theorem p_258_2 {h : dnH} (hs : Sh h) (v : Int32) : dnPI (some 258) 1 2 v h = some ((), dnSI h 258 2 v) := by simp only [dnPI, k_258 hs, Option.map_some]
theorem g_259_0 {h : dnH} (hs : Sh h) : dnGR (some 259) 5 0 h = some (some 1, h) := by simp only [dnGR, k_259 hs, Option.map_some, hs.2.1 (259, 0, 1) (by decide)]
theorem g_259_1 {h : dnH} (hs : Sh h) : dnGR (some 259) 5 1 h = some (some 258, h) := by simp only [dnGR, k_259 hs, Option.map_some, hs.2.1 (259, 1, 258) (by decide)]
theorem g_259_2 {h : dnH} (hs : Sh h) : dnGR (some 259) 5 2 h = some (some 260, h) := by simp only [dnGR, k_259 hs, Option.map_some, hs.2.1 (259, 2, 260) (by decide)]
theorem g_259_3 {h : dnH} (hs : Sh h) : dnGR (some 259) 5 3 h = some (some 264, h) := by simp only [dnGR, k_259 hs, Option.map_some, hs.2.1 (259, 3, 264) (by decide)]
theorem g_268_0 {h : dnH} (hs : Sh h) : dnGR (some 268) 9 0 h = some (some 1, h) := by simp only [dnGR, k_268 hs, Option.map_some, hs.2.1 (268, 0, 1) (by decide)]
theorem g_268_1 {h : dnH} (hs : Sh h) : dnGR (some 268) 9 1 h = some (some 258, h) := by simp only [dnGR, k_268 hs, Option.map_some, hs.2.1 (268, 1, 258) (by decide)]
theorem g_269_0 {h : dnH} (hs : Sh h) : dnGR (some 269) 8 0 h = some (some 1, h) := by simp only [dnGR, k_269 hs, Option.map_some, hs.2.1 (269, 0, 1) (by decide)]
theorem g_269_1 {h : dnH} (hs : Sh h) : dnGR (some 269) 8 1 h = some (some 258, h) := by simp only [dnGR, k_269 hs, Option.map_some, hs.2.1 (269, 1, 258) (by decide)]
theorem g_269_2 {h : dnH} (hs : Sh h) : dnGL (some 269) 8 2 h = some (h.2.2.1 269 2, h) := by simp only [dnGL, k_269 hs, Option.map_some]
theorem p_269_2 {h : dnH} (hs : Sh h) (v : Int64) : dnPL (some 269) 8 2 v h = some ((), dnSL h 269 2 v) := by simp only [dnPL, k_269 hs, Option.map_some]
theorem g_269_3 {h : dnH} (hs : Sh h) : dnGD (some 269) 8 3 h = some (h.2.2.2.1 269 3, h) := by simp only [dnGD, k_269 hs, Option.map_some]
theorem p_269_3 {h : dnH} (hs : Sh h) (v : UInt64) : dnPD (some 269) 8 3 v h = some ((), dnSD h 269 3 v) := by simp only [dnPD, k_269 hs, Option.map_some]
theorem g_269_4 {h : dnH} (hs : Sh h) : dnGI (some 269) 8 4 h = some (h.2.1 269 4, h) := by simp only [dnGI, k_269 hs, Option.map_some]
theorem p_269_4 {h : dnH} (hs : Sh h) (v : Int32) : dnPI (some 269) 8 4 v h = some ((), dnSI h 269 4 v) := by simp only [dnPI, k_269 hs, Option.map_some]
theorem g_269_5 {h : dnH} (hs : Sh h) : dnGI (some 269) 8 5 h = some (h.2.1 269 5, h) := by simp only [dnGI, k_269 hs, Option.map_some]
theorem p_269_5 {h : dnH} (hs : Sh h) (v : Int32) : dnPI (some 269) 8 5 v h = some ((), dnSI h 269 5 v) := by simp only [dnPI, k_269 hs, Option.map_some]
theorem g_270_0 {h : dnH} (hs : Sh h) : dnGR (some 270) 6 0 h = some (some 1, h) := by simp only [dnGR, k_270 hs, Option.map_some, hs.2.1 (270, 0, 1) (by decide)]
theorem g_270_1 {h : dnH} (hs : Sh h) : dnGR (some 270) 6 1 h = some (some 258, h) := by simp only [dnGR, k_270 hs, Option.map_some, hs.2.1 (270, 1, 258) (by decide)]
theorem g_270_2 {h : dnH} (hs : Sh h) : dnGR (some 270) 6 2 h = some (some 271, h) := by simp only [dnGR, k_270 hs, Option.map_some, hs.2.1 (270, 2, 271) (by decide)]
theorem g_270_3 {h : dnH} (hs : Sh h) : dnGR (some 270) 6 3 h = some (some 272, h) := by simp only [dnGR, k_270 hs, Option.map_some, hs.2.1 (270, 3, 272) (by decide)]
theorem g_270_4 {h : dnH} (hs : Sh h) : dnGR (some 270) 6 4 h = some (some 273, h) := by simp only [dnGR, k_270 hs, Option.map_some, hs.2.1 (270, 4, 273) (by decide)]
theorem g_270_5 {h : dnH} (hs : Sh h) : dnGL (some 270) 6 5 h = some (h.2.2.1 270 5, h) := by simp only [dnGL, k_270 hs, Option.map_some]
theorem p_270_5 {h : dnH} (hs : Sh h) (v : Int64) : dnPL (some 270) 6 5 v h = some ((), dnSL h 270 5 v) := by simp only [dnPL, k_270 hs, Option.map_some]
theorem g_270_6 {h : dnH} (hs : Sh h) : dnGI (some 270) 6 6 h = some (h.2.1 270 6, h) := by simp only [dnGI, k_270 hs, Option.map_some]
theorem p_270_6 {h : dnH} (hs : Sh h) (v : Int32) : dnPI (some 270) 6 6 v h = some ((), dnSI h 270 6 v) := by simp only [dnPI, k_270 hs, Option.map_some]
theorem g_274_0 {h : dnH} (hs : Sh h) : dnGR (some 274) 3 0 h = some (some 1, h) := by simp only [dnGR, k_274 hs, Option.map_some, hs.2.1 (274, 0, 1) (by decide)]
theorem g_274_1 {h : dnH} (hs : Sh h) : dnGR (some 274) 3 1 h = some (some 258, h) := by simp only [dnGR, k_274 hs, Option.map_some, hs.2.1 (274, 1, 258) (by decide)]
theorem g_274_2 {h : dnH} (hs : Sh h) : dnGR (some 274) 3 2 h = some (some 275, h) := by simp only [dnGR, k_274 hs, Option.map_some, hs.2.1 (274, 2, 275) (by decide)]
theorem g_274_3 {h : dnH} (hs : Sh h) : dnGR (some 274) 3 3 h = some (some 279, h) := by simp only [dnGR, k_274 hs, Option.map_some, hs.2.1 (274, 3, 279) (by decide)]
theorem g_274_4 {h : dnH} (hs : Sh h) : dnGI (some 274) 3 4 h = some (h.2.1 274 4, h) := by simp only [dnGI, k_274 hs, Option.map_some]
theorem p_274_4 {h : dnH} (hs : Sh h) (v : Int32) : dnPI (some 274) 3 4 v h = some ((), dnSI h 274 4 v) := by simp only [dnPI, k_274 hs, Option.map_some]
theorem g_274_5 {h : dnH} (hs : Sh h) : dnGR (some 274) 3 5 h = some (some 280, h) := by simp only [dnGR, k_274 hs, Option.map_some, hs.2.1 (274, 5, 280) (by decide)]
theorem g_281_0 {h : dnH} (hs : Sh h) : dnGR (some 281) 2 0 h = some (some 282, h) := by simp only [dnGR, k_281 hs, Option.map_some, hs.2.1 (281, 0, 282) (by decide)]
theorem g_281_1 {h : dnH} (hs : Sh h) : dnGI (some 281) 2 1 h = some (h.2.1 281 1, h) := by simp only [dnGI, k_281 hs, Option.map_some]
theorem p_281_1 {h : dnH} (hs : Sh h) (v : Int32) : dnPI (some 281) 2 1 v h = some ((), dnSI h 281 1 v) := by simp only [dnPI, k_281 hs, Option.map_some]
theorem g_281_2 {h : dnH} (hs : Sh h) : dnGR (some 281) 2 2 h = some (some 283, h) := by simp only [dnGR, k_281 hs, Option.map_some, hs.2.1 (281, 2, 283) (by decide)]
theorem g_281_3 {h : dnH} (hs : Sh h) : dnGR (some 281) 2 3 h = some (some 284, h) := by simp only [dnGR, k_281 hs, Option.map_some, hs.2.1 (281, 3, 284) (by decide)]
theorem g_285_0 {h : dnH} (hs : Sh h) : dnGR (some 285) 0 0 h = some (some 258, h) := by simp only [dnGR, k_285 hs, Option.map_some, hs.2.1 (285, 0, 258) (by decide)]
theorem g_285_1 {h : dnH} (hs : Sh h) : dnGR (some 285) 0 1 h = some (some 286, h) := by simp only [dnGR, k_285 hs, Option.map_some, hs.2.1 (285, 1, 286) (by decide)]
theorem g_285_2 {h : dnH} (hs : Sh h) : dnGR (some 285) 0 2 h = some (some 287, h) := by simp only [dnGR, k_285 hs, Option.map_some, hs.2.1 (285, 2, 287) (by decide)]
theorem g_285_3 {h : dnH} (hs : Sh h) : dnGI (some 285) 0 3 h = some (h.2.1 285 3, h) := by simp only [dnGI, k_285 hs, Option.map_some]
theorem p_285_3 {h : dnH} (hs : Sh h) (v : Int32) : dnPI (some 285) 0 3 v h = some ((), dnSI h 285 3 v) := by simp only [dnPI, k_285 hs, Option.map_some]
theorem g_289_0 {h : dnH} (hs : Sh h) : dnGR (some 289) 11 0 h = some (some 290, h) := by simp only [dnGR, k_289 hs, Option.map_some, hs.2.1 (289, 0, 290) (by decide)]
theorem g_289_1 {h : dnH} (hs : Sh h) : dnGL (some 289) 11 1 h = some (h.2.2.1 289 1, h) := by simp only [dnGL, k_289 hs, Option.map_some]
theorem p_289_1 {h : dnH} (hs : Sh h) (v : Int64) : dnPL (some 289) 11 1 v h = some ((), dnSL h 289 1 v) := by simp only [dnPL, k_289 hs, Option.map_some]
theorem g_289_2 {h : dnH} (hs : Sh h) : dnGI (some 289) 11 2 h = some (h.2.1 289 2, h) := by simp only [dnGI, k_289 hs, Option.map_some]
theorem p_289_2 {h : dnH} (hs : Sh h) (v : Int32) : dnPI (some 289) 11 2 v h = some ((), dnSI h 289 2 v) := by simp only [dnPI, k_289 hs, Option.map_some]
theorem g_289_3 {h : dnH} (hs : Sh h) : dnGI (some 289) 11 3 h = some (h.2.1 289 3, h) := by simp only [dnGI, k_289 hs, Option.map_some]
theorem p_289_3 {h : dnH} (hs : Sh h) (v : Int32) : dnPI (some 289) 11 3 v h = some ((), dnSI h 289 3 v) := by simp only [dnPI, k_289 hs, Option.map_some]
theorem g_289_4 {h : dnH} (hs : Sh h) : dnGR (some 289) 11 4 h = some (some 291, h) := by simp only [dnGR, k_289 hs, Option.map_some, hs.2.1 (289, 4, 291) (by decide)]
theorem g_289_5 {h : dnH} (hs : Sh h) : dnGR (some 289) 11 5 h = some (some 292, h) := by simp only [dnGR, k_289 hs, Option.map_some, hs.2.1 (289, 5, 292) (by decide)]
theorem g_289_6 {h : dnH} (hs : Sh h) : dnGR (some 289) 11 6 h = some (some 293, h) := by simp only [dnGR, k_289 hs, Option.map_some, hs.2.1 (289, 6, 293) (by decide)]
theorem g_289_7 {h : dnH} (hs : Sh h) : dnGR (some 289) 11 7 h = some (some 294, h) := by simp only [dnGR, k_289 hs, Option.map_some, hs.2.1 (289, 7, 294) (by decide)]
theorem g_289_8 {h : dnH} (hs : Sh h) : dnGR (some 289) 11 8 h = some (some 295, h) := by simp only [dnGR, k_289 hs, Option.map_some, hs.2.1 (289, 8, 295) (by decide)]
theorem g_289_9 {h : dnH} (hs : Sh h) : dnGR (some 289) 11 9 h = some (some 296, h) := by simp only [dnGR, k_289 hs, Option.map_some, hs.2.1 (289, 9, 296) (by decide)]
theorem g_289_10 {h : dnH} (hs : Sh h) : dnGR (some 289) 11 10 h = some (some 297, h) := by simp only [dnGR, k_289 hs, Option.map_some, hs.2.1 (289, 10, 297) (by decide)]
theorem g_289_11 {h : dnH} (hs : Sh h) : dnGR (some 289) 11 11 h = some (some 298, h) := by simp only [dnGR, k_289 hs, Option.map_some, hs.2.1 (289, 11, 298) (by decide)]
theorem g_289_12 {h : dnH} (hs : Sh h) : dnGI (some 289) 11 12 h = some (h.2.1 289 12, h) := by simp only [dnGI, k_289 hs, Option.map_some]
theorem p_289_12 {h : dnH} (hs : Sh h) (v : Int32) : dnPI (some 289) 11 12 v h = some ((), dnSI h 289 12 v) := by simp only [dnPI, k_289 hs, Option.map_some]
theorem g_289_13 {h : dnH} (hs : Sh h) : dnGL (some 289) 11 13 h = some (h.2.2.1 289 13, h) := by simp only [dnGL, k_289 hs, Option.map_some]
theorem p_289_13 {h : dnH} (hs : Sh h) (v : Int64) : dnPL (some 289) 11 13 v h = some ((), dnSL h 289 13 v) := by simp only [dnPL, k_289 hs, Option.map_some]
theorem g_289_14 {h : dnH} (hs : Sh h) : dnGD (some 289) 11 14 h = some (h.2.2.2.1 289 14, h) := by simp only [dnGD, k_289 hs, Option.map_some]
theorem p_289_14 {h : dnH} (hs : Sh h) (v : UInt64) : dnPD (some 289) 11 14 v h = some ((), dnSD h 289 14 v) := by simp only [dnPD, k_289 hs, Option.map_some]
theorem g_289_15 {h : dnH} (hs : Sh h) : dnGR (some 289) 11 15 h = some (some 299, h) := by simp only [dnGR, k_289 hs, Option.map_some, hs.2.1 (289, 15, 299) (by decide)]
theorem g_289_16 {h : dnH} (hs : Sh h) : dnGR (some 289) 11 16 h = some (some 300, h) := by simp only [dnGR, k_289 hs, Option.map_some, hs.2.1 (289, 16, 300) (by decide)]
theorem g_289_17 {h : dnH} (hs : Sh h) : dnGR (some 289) 11 17 h = some (some 301, h) := by simp only [dnGR, k_289 hs, Option.map_some, hs.2.1 (289, 17, 301) (by decide)]
theorem g_289_18 {h : dnH} (hs : Sh h) : dnGR (some 289) 11 18 h = some (some 302, h) := by simp only [dnGR, k_289 hs, Option.map_some, hs.2.1 (289, 18, 302) (by decide)]
theorem g_289_19 {h : dnH} (hs : Sh h) : dnGI (some 289) 11 19 h = some (h.2.1 289 19, h) := by simp only [dnGI, k_289 hs, Option.map_some]
theorem p_289_19 {h : dnH} (hs : Sh h) (v : Int32) : dnPI (some 289) 11 19 v h = some ((), dnSI h 289 19 v) := by simp only [dnPI, k_289 hs, Option.map_some]
theorem g_289_20 {h : dnH} (hs : Sh h) : dnGL (some 289) 11 20 h = some (h.2.2.1 289 20, h) := by simp only [dnGL, k_289 hs, Option.map_some]
theorem p_289_20 {h : dnH} (hs : Sh h) (v : Int64) : dnPL (some 289) 11 20 v h = some ((), dnSL h 289 20 v) := by simp only [dnPL, k_289 hs, Option.map_some]
theorem g_289_21 {h : dnH} (hs : Sh h) : dnGD (some 289) 11 21 h = some (h.2.2.2.1 289 21, h) := by simp only [dnGD, k_289 hs, Option.map_some]
theorem p_289_21 {h : dnH} (hs : Sh h) (v : UInt64) : dnPD (some 289) 11 21 v h = some ((), dnSD h 289 21 v) := by simp only [dnPD, k_289 hs, Option.map_some]
theorem g_289_22 {h : dnH} (hs : Sh h) : dnGR (some 289) 11 22 h = some (some 303, h) := by simp only [dnGR, k_289 hs, Option.map_some, hs.2.1 (289, 22, 303) (by decide)]
theorem g_289_23 {h : dnH} (hs : Sh h) : dnGR (some 289) 11 23 h = some (some 304, h) := by simp only [dnGR, k_289 hs, Option.map_some, hs.2.1 (289, 23, 304) (by decide)]
theorem g_289_24 {h : dnH} (hs : Sh h) : dnGR (some 289) 11 24 h = some (some 305, h) := by simp only [dnGR, k_289 hs, Option.map_some, hs.2.1 (289, 24, 305) (by decide)]
theorem g_289_25 {h : dnH} (hs : Sh h) : dnGR (some 289) 11 25 h = some (some 306, h) := by simp only [dnGR, k_289 hs, Option.map_some, hs.2.1 (289, 25, 306) (by decide)]
theorem g_289_26 {h : dnH} (hs : Sh h) : dnGR (some 289) 11 26 h = some (some 307, h) := by simp only [dnGR, k_289 hs, Option.map_some, hs.2.1 (289, 26, 307) (by decide)]
theorem g_289_27 {h : dnH} (hs : Sh h) : dnGL (some 289) 11 27 h = some (h.2.2.1 289 27, h) := by simp only [dnGL, k_289 hs, Option.map_some]
theorem p_289_27 {h : dnH} (hs : Sh h) (v : Int64) : dnPL (some 289) 11 27 v h = some ((), dnSL h 289 27 v) := by simp only [dnPL, k_289 hs, Option.map_some]
theorem g_289_28 {h : dnH} (hs : Sh h) : dnGR (some 289) 11 28 h = some (some 308, h) := by simp only [dnGR, k_289 hs, Option.map_some, hs.2.1 (289, 28, 308) (by decide)]
theorem g_289_29 {h : dnH} (hs : Sh h) : dnGR (some 289) 11 29 h = some (some 309, h) := by simp only [dnGR, k_289 hs, Option.map_some, hs.2.1 (289, 29, 309) (by decide)]
theorem g_289_30 {h : dnH} (hs : Sh h) : dnGR (some 289) 11 30 h = some (some 310, h) := by simp only [dnGR, k_289 hs, Option.map_some, hs.2.1 (289, 30, 310) (by decide)]
theorem g_289_31 {h : dnH} (hs : Sh h) : dnGR (some 289) 11 31 h = some (some 311, h) := by simp only [dnGR, k_289 hs, Option.map_some, hs.2.1 (289, 31, 311) (by decide)]
theorem g_289_32 {h : dnH} (hs : Sh h) : dnGR (some 289) 11 32 h = some (some 312, h) := by simp only [dnGR, k_289 hs, Option.map_some, hs.2.1 (289, 32, 312) (by decide)]
theorem g_289_33 {h : dnH} (hs : Sh h) : dnGR (some 289) 11 33 h = some (some 313, h) := by simp only [dnGR, k_289 hs, Option.map_some, hs.2.1 (289, 33, 313) (by decide)]
theorem g_289_34 {h : dnH} (hs : Sh h) : dnGR (some 289) 11 34 h = some (some 314, h) := by simp only [dnGR, k_289 hs, Option.map_some, hs.2.1 (289, 34, 314) (by decide)]
theorem g_289_35 {h : dnH} (hs : Sh h) : dnGR (some 289) 11 35 h = some (some 315, h) := by simp only [dnGR, k_289 hs, Option.map_some, hs.2.1 (289, 35, 315) (by decide)]
theorem g_289_36 {h : dnH} (hs : Sh h) : dnGR (some 289) 11 36 h = some (some 316, h) := by simp only [dnGR, k_289 hs, Option.map_some, hs.2.1 (289, 36, 316) (by decide)]
theorem g_289_37 {h : dnH} (hs : Sh h) : dnGI (some 289) 11 37 h = some (h.2.1 289 37, h) := by simp only [dnGI, k_289 hs, Option.map_some]
theorem p_289_37 {h : dnH} (hs : Sh h) (v : Int32) : dnPI (some 289) 11 37 v h = some ((), dnSI h 289 37 v) := by simp only [dnPI, k_289 hs, Option.map_some]
theorem g_289_38 {h : dnH} (hs : Sh h) : dnGI (some 289) 11 38 h = some (h.2.1 289 38, h) := by simp only [dnGI, k_289 hs, Option.map_some]
theorem p_289_38 {h : dnH} (hs : Sh h) (v : Int32) : dnPI (some 289) 11 38 v h = some ((), dnSI h 289 38 v) := by simp only [dnPI, k_289 hs, Option.map_some]
theorem g_289_39 {h : dnH} (hs : Sh h) : dnGI (some 289) 11 39 h = some (h.2.1 289 39, h) := by simp only [dnGI, k_289 hs, Option.map_some]
theorem p_289_39 {h : dnH} (hs : Sh h) (v : Int32) : dnPI (some 289) 11 39 v h = some ((), dnSI h 289 39 v) := by simp only [dnPI, k_289 hs, Option.map_some]
theorem g_289_40 {h : dnH} (hs : Sh h) : dnGI (some 289) 11 40 h = some (h.2.1 289 40, h) := by simp only [dnGI, k_289 hs, Option.map_some]
theorem p_289_40 {h : dnH} (hs : Sh h) (v : Int32) : dnPI (some 289) 11 40 v h = some ((), dnSI h 289 40 v) := by simp only [dnPI, k_289 hs, Option.map_some]
theorem g_289_41 {h : dnH} (hs : Sh h) : dnGR (some 289) 11 41 h = some (some 317, h) := by simp only [dnGR, k_289 hs, Option.map_some, hs.2.1 (289, 41, 317) (by decide)]
theorem g_289_42 {h : dnH} (hs : Sh h) : dnGR (some 289) 11 42 h = some (some 318, h) := by simp only [dnGR, k_289 hs, Option.map_some, hs.2.1 (289, 42, 318) (by decide)]
theorem g_289_43 {h : dnH} (hs : Sh h) : dnGI (some 289) 11 43 h = some (h.2.1 289 43, h) := by simp only [dnGI, k_289 hs, Option.map_some]
theorem p_289_43 {h : dnH} (hs : Sh h) (v : Int32) : dnPI (some 289) 11 43 v h = some ((), dnSI h 289 43 v) := by simp only [dnPI, k_289 hs, Option.map_some]
theorem g_289_44 {h : dnH} (hs : Sh h) : dnGR (some 289) 11 44 h = some (some 319, h) := by simp only [dnGR, k_289 hs, Option.map_some, hs.2.1 (289, 44, 319) (by decide)]
theorem g_289_45 {h : dnH} (hs : Sh h) : dnGR (some 289) 11 45 h = some (some 320, h) := by simp only [dnGR, k_289 hs, Option.map_some, hs.2.1 (289, 45, 320) (by decide)]
theorem rk_0 {h : dnH} {a : Nat} (hr : RowAt h a) : dnAt h (some a) 4 = some (a, 0) := dnAt_ok hr.1
theorem rk_1 {h : dnH} {a : Nat} (hr : RowAt h a) : dnAt h (some (a + 1)) 100 = some (a + 1, 12) := dnAt_ok hr.2.1
theorem rk_2 {h : dnH} {a : Nat} (hr : RowAt h a) : dnAt h (some (a + 2)) 102 = some (a + 2, 12) := dnAt_ok hr.2.2.1
theorem rk_3 {h : dnH} {a : Nat} (hr : RowAt h a) : dnAt h (some (a + 3)) 103 = some (a + 3, 12) := dnAt_ok hr.2.2.2.1
theorem rg_3 {h : dnH} {a : Nat} (hr : RowAt h a) : dnGR (some a) 4 3 h = some (some (a + 1), h) := by simp only [dnGR, rk_0 hr, Option.map_some, hr.2.2.2.2.1]
theorem rg_4 {h : dnH} {a : Nat} (hr : RowAt h a) : dnGR (some a) 4 4 h = some (some (a + 2), h) := by simp only [dnGR, rk_0 hr, Option.map_some, hr.2.2.2.2.2.1]
theorem rg_5 {h : dnH} {a : Nat} (hr : RowAt h a) : dnGR (some a) 4 5 h = some (some (a + 3), h) := by simp only [dnGR, rk_0 hr, Option.map_some, hr.2.2.2.2.2.2]
theorem rg_i {h : dnH} {a : Nat} (hr : RowAt h a) (k : Nat) : dnGI (some a) 4 k h = some (h.2.1 a k, h) := by simp only [dnGI, rk_0 hr, Option.map_some]
theorem rp_i {h : dnH} {a : Nat} (hr : RowAt h a) (k : Nat) (v : Int32) : dnPI (some a) 4 k v h = some ((), dnSI h a k v) := by simp only [dnPI, rk_0 hr, Option.map_some]
theorem rv {h : dnH} {a : Nat} {α : Type} {X : dnM α} (hr : RowAt h a) : dnCv (some a) 4 X h = X h := by simp only [dnCv, dnB, dnCk, rk_0 hr, Option.map_some]
theorem ra_1 {h : dnH} {a : Nat} (hr : RowAt h a) (i : Int32) : dnAI (some (a + 1)) 100 i h = if dnIn i 12 = true then some (h.2.1 (a + 1) i.toNatClampNeg, h) else none := by simp only [dnAI, rk_1 hr]
theorem ra_2 {h : dnH} {a : Nat} (hr : RowAt h a) (i : Int32) : dnAL (some (a + 2)) 102 i h = if dnIn i 12 = true then some (h.2.2.1 (a + 2) i.toNatClampNeg, h) else none := by simp only [dnAL, rk_2 hr]
theorem ra_3 {h : dnH} {a : Nat} (hr : RowAt h a) (i : Int32) : dnAD (some (a + 3)) 103 i h = if dnIn i 12 = true then some (h.2.2.2.1 (a + 3) i.toNatClampNeg, h) else none := by simp only [dnAD, rk_3 hr]
theorem rt_1 {h : dnH} {a : Nat} (hr : RowAt h a) (i v : Int32) : dnTI (some (a + 1)) 100 i v h = if dnIn i 12 = true then some ((), dnSI h (a + 1) i.toNatClampNeg v) else none := by simp only [dnTI, rk_1 hr]
theorem rt_2 {h : dnH} {a : Nat} (hr : RowAt h a) (i : Int32) (v : Int64) : dnTL (some (a + 2)) 102 i v h = if dnIn i 12 = true then some ((), dnSL h (a + 2) i.toNatClampNeg v) else none := by simp only [dnTL, rk_2 hr]
theorem rt_3 {h : dnH} {a : Nat} (hr : RowAt h a) (i : Int32) (v : UInt64) : dnTD (some (a + 3)) 103 i v h = if dnIn i 12 = true then some ((), dnSD h (a + 3) i.toNatClampNeg v) else none := by simp only [dnTD, rk_3 hr]
theorem sk_0 {h : dnH} {s : Nat} (hs : StAt h s) : dnAt h (some s) 7 = some (s, 0) := dnAt_ok hs.1.1
theorem sk_1 {h : dnH} {s : Nat} (hs : StAt h s) : dnAt h (some (s + 1)) 100 = some (s + 1, 5) := dnAt_ok hs.1.2.1
theorem sk_2 {h : dnH} {s : Nat} (hs : StAt h s) : dnAt h (some (s + 2)) 100 = some (s + 2, 30) := dnAt_ok hs.1.2.2.1
theorem sk_3 {h : dnH} {s : Nat} (hs : StAt h s) : dnAt h (some (s + 3)) 104 = some (s + 3, 31) := dnAt_ok hs.1.2.2.2
theorem sg_0 {h : dnH} {s : Nat} (hs : StAt h s) : dnGR (some s) 7 0 h = some (some (s + 1), h) := by simp only [dnGR, sk_0 hs, Option.map_some, hs.2.1.1]
theorem sg_1 {h : dnH} {s : Nat} (hs : StAt h s) : dnGR (some s) 7 1 h = some (some (s + 2), h) := by simp only [dnGR, sk_0 hs, Option.map_some, hs.2.1.2.1]
theorem sg_2 {h : dnH} {s : Nat} (hs : StAt h s) : dnGR (some s) 7 2 h = some (some (s + 3), h) := by simp only [dnGR, sk_0 hs, Option.map_some, hs.2.1.2.2]
theorem sv {h : dnH} {s : Nat} {α : Type} {X : dnM α} (hs : StAt h s) : dnCv (some s) 7 X h = X h := by simp only [dnCv, dnB, dnCk, sk_0 hs, Option.map_some]
theorem sa_1 {h : dnH} {s : Nat} (hs : StAt h s) (i : Int32) : dnAI (some (s + 1)) 100 i h = if dnIn i 5 = true then some (h.2.1 (s + 1) i.toNatClampNeg, h) else none := by simp only [dnAI, sk_1 hs]
theorem sa_2 {h : dnH} {s : Nat} (hs : StAt h s) (i : Int32) : dnAI (some (s + 2)) 100 i h = if dnIn i 30 = true then some (h.2.1 (s + 2) i.toNatClampNeg, h) else none := by simp only [dnAI, sk_2 hs]
theorem st_1 {h : dnH} {s : Nat} (hs : StAt h s) (i v : Int32) : dnTI (some (s + 1)) 100 i v h = if dnIn i 5 = true then some ((), dnSI h (s + 1) i.toNatClampNeg v) else none := by simp only [dnTI, sk_1 hs]
theorem st_2 {h : dnH} {s : Nat} (hs : StAt h s) (i v : Int32) : dnTI (some (s + 2)) 100 i v h = if dnIn i 30 = true then some ((), dnSI h (s + 2) i.toNatClampNeg v) else none := by simp only [dnTI, sk_2 hs]
theorem sl_1 {h : dnH} {s : Nat} (hs : StAt h s) : dnLn (some (s + 1)) 100 h = some (5, h) := by simp only [dnLn, sk_1 hs, Option.map_some]; rfl
theorem sl_2 {h : dnH} {s : Nat} (hs : StAt h s) : dnLn (some (s + 2)) 100 h = some (30, h) := by simp only [dnLn, sk_2 hs, Option.map_some]; rfl
theorem sa_3 {h : dnH} {s n : Nat} (hs : StAt h s) (hn : n < 31) : dnAR (some (s + 3)) 104 (nI n) h = some (some (s + 4 + 4 * n), h) := by
  have e1 : dnIn (nI n) 31 = true := decide_eq_true (by rw [nI_toInt (by omega)]; omega)
  have e2 : (nI n).toNatClampNeg = n := nI_clamp (by omega)
  simp only [dnAR, sk_3 hs, e1, if_true, e2, (hs.2.2 n hn).1]
/-- a loop by its states: N times on, then out -/
theorem dnIt_run {σ ρ : Type} {f : σ → dnM (σ ⊕ ρ)} {q : ρ} {hq : dnH} : ∀ (N n : Nat) (st : Nat → σ × dnH), N < n → (∀ i, i < N → f (st i).1 (st i).2 = some (.inl (st (i + 1)).1, (st (i + 1)).2)) → f (st N).1 (st N).2 = some (.inr q, hq) → dnIt n f (st 0).1 (st 0).2 = some (q, hq) := by
  intro N
  induction N with
  | zero =>
    intro n st hn hs he
    cases n with
    | zero => omega
    | succ n =>
      show dnB (f (st 0).1) _ (st 0).2 = _
      rw [dnB_some he]
      rfl
  | succ N ih =>
    intro n st hn hs he
    cases n with
    | zero => omega
    | succ n =>
      show dnB (f (st 0).1) _ (st 0).2 = _
      rw [dnB_some (hs 0 (by omega))]
      exact ih n (fun i => st (i + 1)) (by omega) (fun i hi => hs (i + 1) (by omega)) he
theorem dnIn_nI {i n : Nat} (h : i < n) (hn : n ≤ 2 ^ 31) : dnIn (nI i) n = true := decide_eq_true (by rw [nI_toInt (by omega)]; omega)
theorem dnIn_of {x : Int32} {n : Nat} (h : dnIn x n = true) (hn : n ≤ 2 ^ 31) : ∃ j : Nat, j < n ∧ x = nI j := by
  have h1 := of_decide_eq_true h
  refine ⟨x.toInt.toNat, by omega, Int32.toInt_inj.mp ?_⟩
  rw [nI_toInt (by omega)]
  omega
theorem dnUp_eq {α : Type} {f : Nat → Nat → α} {a k : Nat} {v : α} : dnUp f a k v a k = v := by simp [dnUp]
theorem dnUp_neA {α : Type} {f : Nat → Nat → α} {a k x y : Nat} {v : α} (h : x ≠ a) : dnUp f a k v x y = f x y := by simp [dnUp, h]
theorem dnUp_neK {α : Type} {f : Nat → Nat → α} {a k x y : Nat} {v : α} (h : y ≠ k) : dnUp f a k v x y = f x y := by simp [dnUp, h]
