/-! THE LAW -/
theorem law_le {L : Nat} {s : Int32} (hL : L ≤ 3584) (h0 : 0 ≤ s.toInt) (h : ¬ (Int32.ofNat L - 7) < s) : s.toInt ≤ 3577 := by
  have h1 := Int32.le_iff_toInt_le.mp (Int32.not_lt.mp h)
  have h2 : (Int32.ofNat L).toInt = (L : Int) := nI_toInt (by omega)
  have h3 : (Int32.ofNat L - 7).toInt = (L : Int) - 7 := by
    rw [Int32.toInt_sub, h2]
    have : (7 : Int32).toInt = 7 := rfl
    rw [this]
    exact Int.bmod_eq_of_le (by omega) (by omega)
  omega
def dnXc (L : Nat) (xs : Nat → Int32) (i : Int32) : dnM Int32 := fun h => if dnIn i L then some (xs i.toNatClampNeg, h) else none
def dnG (b bs L : Nat) (xs : Nat → Int32) (s : State) : Prop := va_X bs L xs s s.heap ∧ bs < s.heap.size ∧ ¬ b ≤ bs
section DN
variable {w : dnWd} {x : dnX} {b : Nat} {cc : ByteArray} {own : String} {nL : Nat} {rm : Room} {nm : String} {α β γ : Type} {em : α → Option Value} {pc cells slots : Nat} {lv : List (Nat × Value)} {st : List Value} {F : dnM α} {bs L : Nat} {xs : Nat → Int32}
theorem dn_slen (hdg : decode cc pc = .ok (.arraylength, 1)) (k : dnD w x b (dnG b bs L xs) cc own nL rm nm em (pc + 1) cells slots lv (.int (Int32.ofNat L) :: st) F) : dnD w x b (dnG b bs L xs) cc own nL rm nm em pc cells slots lv (.ref bs :: st) F := by
  intro p l e s m args below meth c Q h a h1 H locs ls hC hF hR hS hl hq
  obtain ⟨hx, hb, hml, hown, hts, hnm, hK, hX, hbs, hSt, hG⟩ := id hC
  exact va_slen hx hb hG.1 hG.2.1 hG.2.2 hS hdg (k p l e s m args below meth c Q h a h1 H locs ls hC hF hR hS hl hq)
theorem dn_sald {i : Int32} {f : Int32 → dnM β} {g : β → dnM α} (hdg : decode cc pc = .ok (.iaload, 1)) (kk : ∀ v, dnD w x b (dnG b bs L xs) cc own nL rm nm em (pc + 1) cells slots lv (.int v :: st) (dnB (f v) g)) : dnD w x b (dnG b bs L xs) cc own nL rm nm em pc cells slots lv (.int i :: .ref bs :: st) (dnB (dnB (dnXc L xs i) f) g) := by
  intro p l e s m args below meth c Q h a h1 H locs ls hC hF hR hS hl hq
  obtain ⟨hx, hb, hml, hown, hts, hnm, hK, hX, hbs, hSt, hG⟩ := id hC
  rw [dnB_assoc] at hF
  obtain ⟨v, h2, e1, e2⟩ := dnB_inv hF
  unfold dnXc at e1
  split at e1
  · rename_i hin
    cases e1
    exact va_sld hx hb hG.1 hG.2.1 hG.2.2 hS (dnIn_vp hin) hdg (kk _ p l e s m args below meth c Q h a h1 H locs ls hC e2 hR hS hl hq)
  · cases e1
end DN
section DN
variable {w : dnWd} {x : dnX} {b : Nat} {G : State → Prop} {cc : ByteArray} {own : String} {nL : Nat} {rm : Room} {nm : String} {α : Type} {em : α → Option Value} {pc : Nat} {st : List Value}
theorem dn_loopIR {σ ρ : Type} {body : σ → dnM (σ ⊕ (ρ ⊕ α))} {g : ρ ⊕ α → dnM α} (I : σ → Prop) (cs ss : σ → Nat) (pcE cE sE : Nat) (LV : σ → List (Nat × Value)) (LE : ρ → List (Nat × Value))
    (hb : ∀ s : σ, I s → ∀ (K : σ → dnM α) (E : ρ ⊕ α → dnM α), (∀ s1 : σ, I s1 → dnD w x b G cc own nL rm nm em pc (cs s1) (ss s1) (LV s1) st (K s1)) → (∀ q : ρ, dnD w x b G cc own nL rm nm em pcE cE sE (LE q) st (E (.inl q))) → dnRt w x b G cc own nL rm nm em cE sE (fun v => E (.inr v)) → dnD w x b G cc own nL rm nm em pc (cs s) (ss s) (LV s) st (dnB (body s) (dnKo K E)))
    (hr : dnRt w x b G cc own nL rm nm em cE sE (fun v => g (.inr v))) (he : ∀ q : ρ, dnD w x b G cc own nL rm nm em pcE cE sE (LE q) st (g (.inl q))) : ∀ (n : Nat) (s : σ), I s → dnD w x b G cc own nL rm nm em pc (cs s) (ss s) (LV s) st (dnB (dnIt n body s) g) := by
  intro n
  induction n with
  | zero =>
    intro s _ p l e s2 m args below meth c Q h a h1 H locs ls hC hF
    cases hF
  | succ n ih =>
    intro s hs
    refine dn_eqF ?_ (hb s hs (fun s1 => dnB (dnIt n body s1) g) g ih he hr)
    show dnB (dnB (body s) _) g = _
    rw [dnB_assoc]
    congr 1
    funext r
    cases r <;> rfl
end DN
def fL_law_j2426 (l3 : Int32) : dnM ((Int32) ⊕ ((Unit) ⊕ Bool)) :=
  dnP (.inl (l3 + 7))
def fL_law_b18 (L : Nat) (xs : Nat → Int32) (c1 : Option Nat) (c2 : Option Nat) (s18 : Int32) : dnM ((Int32) ⊕ ((Unit) ⊕ Bool)) :=
  if ((Int32.ofNat L) - 7) < s18 then
  (dnP (.inr (.inl ())))
  else
  (dnB (dnXc L xs s18) fun v5 =>
  if (v5 &&& 63) = 0 then
  (dnB (dnXc L xs (s18 + 1)) fun v378 =>
  dnB (dnXc L xs (s18 + 2)) fun v379 =>
  dnB (dnCv c1 10 (fX12_grid c1 v378 v379)) fun v380 =>
  dnB (dnXc L xs (s18 + 1)) fun v381 =>
  dnB (dnXc L xs (s18 + 2)) fun v382 =>
  dnB (dnCv c2 11 (fX13_grid c2 v381 v382)) fun v383 =>
  if v380 = v383 then
  (fL_law_j2426 s18)
  else
  (dnP (.inr (.inr false))))
  else
  (if (v5 &&& 63) = 1 then
  (dnB (dnXc L xs (s18 + 1)) fun v374 =>
  dnB (dnCv c1 10 (fX12_drop c1 v374)) fun v375 =>
  dnB (dnXc L xs (s18 + 1)) fun v376 =>
  dnB (dnCv c2 11 (fX13_drop c2 v376)) fun v377 =>
  if v375 = v377 then
  (fL_law_j2426 s18)
  else
  (dnP (.inr (.inr false))))
  else
  (if (v5 &&& 63) = 2 then
  (dnB (dnXc L xs (s18 + 1)) fun v364 =>
  dnB (dnXc L xs (s18 + 2)) fun v365 =>
  dnB (dnXc L xs (s18 + 3)) fun v366 =>
  dnB (dnXc L xs (s18 + 4)) fun v367 =>
  dnB (dnCv c1 10 (fX12_row c1 v364 v365 v366 v367)) fun v368 =>
  dnB (dnXc L xs (s18 + 1)) fun v369 =>
  dnB (dnXc L xs (s18 + 2)) fun v370 =>
  dnB (dnXc L xs (s18 + 3)) fun v371 =>
  dnB (dnXc L xs (s18 + 4)) fun v372 =>
  dnB (dnCv c2 11 (fX13_row c2 v369 v370 v371 v372)) fun v373 =>
  if v368 = v373 then
  (fL_law_j2426 s18)
  else
  (dnP (.inr (.inr false))))
  else
  (if (v5 &&& 63) = 3 then
  (dnB (dnXc L xs (s18 + 1)) fun v356 =>
  dnB (dnXc L xs (s18 + 2)) fun v357 =>
  dnB (dnXc L xs (s18 + 3)) fun v358 =>
  dnB (dnCv c1 10 (fX12_thing c1 v356 v357 v358)) fun v359 =>
  dnB (dnXc L xs (s18 + 1)) fun v360 =>
  dnB (dnXc L xs (s18 + 2)) fun v361 =>
  dnB (dnXc L xs (s18 + 3)) fun v362 =>
  dnB (dnCv c2 11 (fX13_thing c2 v360 v361 v362)) fun v363 =>
  if v359 = v363 then
  (fL_law_j2426 s18)
  else
  (dnP (.inr (.inr false))))
  else
  (if (v5 &&& 63) = 4 then
  (dnB (dnXc L xs (s18 + 1)) fun v346 =>
  dnB (dnXc L xs (s18 + 2)) fun v347 =>
  dnB (dnXc L xs (s18 + 3)) fun v348 =>
  dnB (dnXc L xs (s18 + 4)) fun v349 =>
  dnB (dnCv c1 10 (fX12_share c1 v346 v347 v348 v349)) fun v350 =>
  dnB (dnXc L xs (s18 + 1)) fun v351 =>
  dnB (dnXc L xs (s18 + 2)) fun v352 =>
  dnB (dnXc L xs (s18 + 3)) fun v353 =>
  dnB (dnXc L xs (s18 + 4)) fun v354 =>
  dnB (dnCv c2 11 (fX13_share c2 v351 v352 v353 v354)) fun v355 =>
  if v350 = v355 then
  (fL_law_j2426 s18)
  else
  (dnP (.inr (.inr false))))
  else
  (if (v5 &&& 63) = 5 then
  (dnB (dnXc L xs (s18 + 1)) fun v336 =>
  dnB (dnXc L xs (s18 + 2)) fun v337 =>
  dnB (dnXc L xs (s18 + 3)) fun v338 =>
  dnB (dnXc L xs (s18 + 4)) fun v339 =>
  dnB (dnCv c1 10 (fX12_swap c1 v336 v337 v338 v339)) fun v340 =>
  dnB (dnXc L xs (s18 + 1)) fun v341 =>
  dnB (dnXc L xs (s18 + 2)) fun v342 =>
  dnB (dnXc L xs (s18 + 3)) fun v343 =>
  dnB (dnXc L xs (s18 + 4)) fun v344 =>
  dnB (dnCv c2 11 (fX13_swap c2 v341 v342 v343 v344)) fun v345 =>
  if v340 = v345 then
  (fL_law_j2426 s18)
  else
  (dnP (.inr (.inr false))))
  else
  (if (v5 &&& 63) = 6 then
  (dnB (dnXc L xs (s18 + 1)) fun v330 =>
  dnB (dnXc L xs (s18 + 2)) fun v331 =>
  dnB (dnCv c1 10 (fX12_holds c1 v330 v331)) fun v332 =>
  dnB (dnXc L xs (s18 + 1)) fun v333 =>
  dnB (dnXc L xs (s18 + 2)) fun v334 =>
  dnB (dnCv c2 11 (fX13_holds c2 v333 v334)) fun v335 =>
  if v332 = v335 then
  (fL_law_j2426 s18)
  else
  (dnP (.inr (.inr false))))
  else
  (if (v5 &&& 63) = 7 then
  (dnB (dnXc L xs (s18 + 1)) fun v320 =>
  dnB (dnXc L xs (s18 + 2)) fun v321 =>
  dnB (dnXc L xs (s18 + 3)) fun v322 =>
  dnB (dnXc L xs (s18 + 4)) fun v323 =>
  dnB (dnCv c1 10 (fX12_same c1 v320 v321 v322 v323)) fun v324 =>
  dnB (dnXc L xs (s18 + 1)) fun v325 =>
  dnB (dnXc L xs (s18 + 2)) fun v326 =>
  dnB (dnXc L xs (s18 + 3)) fun v327 =>
  dnB (dnXc L xs (s18 + 4)) fun v328 =>
  dnB (dnCv c2 11 (fX13_same c2 v325 v326 v327 v328)) fun v329 =>
  if v324 = v329 then
  (fL_law_j2426 s18)
  else
  (dnP (.inr (.inr false))))
  else
  (if (v5 &&& 63) = 8 then
  (dnB (dnXc L xs (s18 + 1)) fun v314 =>
  dnB (dnXc L xs (s18 + 2)) fun v315 =>
  dnB (dnCv c1 10 (fX12_size c1 v314 v315)) fun v316 =>
  dnB (dnXc L xs (s18 + 1)) fun v317 =>
  dnB (dnXc L xs (s18 + 2)) fun v318 =>
  dnB (dnCv c2 11 (fX13_size c2 v317 v318)) fun v319 =>
  if v316 = v319 then
  (fL_law_j2426 s18)
  else
  (dnP (.inr (.inr false))))
  else
  (if (v5 &&& 63) = 9 then
  (dnB (dnXc L xs (s18 + 1)) fun v304 =>
  dnB (dnXc L xs (s18 + 2)) fun v305 =>
  dnB (dnXc L xs (s18 + 3)) fun v306 =>
  dnB (dnXc L xs (s18 + 4)) fun v307 =>
  dnB (dnCv c1 10 (fX12_read c1 v304 v305 v306 v307)) fun v308 =>
  dnB (dnXc L xs (s18 + 1)) fun v309 =>
  dnB (dnXc L xs (s18 + 2)) fun v310 =>
  dnB (dnXc L xs (s18 + 3)) fun v311 =>
  dnB (dnXc L xs (s18 + 4)) fun v312 =>
  dnB (dnCv c2 11 (fX13_read c2 v309 v310 v311 v312)) fun v313 =>
  if v308 = v313 then
  (fL_law_j2426 s18)
  else
  (dnP (.inr (.inr false))))
  else
  (if (v5 &&& 63) = 10 then
  (dnB (dnXc L xs (s18 + 1)) fun v290 =>
  dnB (dnXc L xs (s18 + 2)) fun v291 =>
  dnB (dnXc L xs (s18 + 3)) fun v292 =>
  dnB (dnXc L xs (s18 + 4)) fun v293 =>
  dnB (dnXc L xs (s18 + 5)) fun v294 =>
  dnB (dnXc L xs (s18 + 6)) fun v295 =>
  dnB (dnCv c1 10 (fX12_write c1 v290 v291 v292 v293 ((((v294 : Int32).toInt64) <<< ((32 : Int32).toInt64 &&& 63)) ||| (((v295 : Int32).toInt64) &&& 4294967295)))) fun v296 =>
  dnB (dnXc L xs (s18 + 1)) fun v297 =>
  dnB (dnXc L xs (s18 + 2)) fun v298 =>
  dnB (dnXc L xs (s18 + 3)) fun v299 =>
  dnB (dnXc L xs (s18 + 4)) fun v300 =>
  dnB (dnXc L xs (s18 + 5)) fun v301 =>
  dnB (dnXc L xs (s18 + 6)) fun v302 =>
  dnB (dnCv c2 11 (fX13_write c2 v297 v298 v299 v300 ((((v301 : Int32).toInt64) <<< ((32 : Int32).toInt64 &&& 63)) ||| (((v302 : Int32).toInt64) &&& 4294967295)))) fun v303 =>
  if v296 = v303 then
  (fL_law_j2426 s18)
  else
  (dnP (.inr (.inr false))))
  else
  (if (v5 &&& 63) = 11 then
  (dnB (dnXc L xs (s18 + 1)) fun v276 =>
  dnB (dnXc L xs (s18 + 2)) fun v277 =>
  dnB (dnXc L xs (s18 + 3)) fun v278 =>
  dnB (dnXc L xs (s18 + 4)) fun v279 =>
  dnB (dnXc L xs (s18 + 5)) fun v280 =>
  dnB (dnXc L xs (s18 + 6)) fun v281 =>
  dnB (dnCv c1 10 (fX12_put c1 v276 v277 v278 v279 ((((v280 : Int32).toInt64) <<< ((32 : Int32).toInt64 &&& 63)) ||| (((v281 : Int32).toInt64) &&& 4294967295)))) fun v282 =>
  dnB (dnXc L xs (s18 + 1)) fun v283 =>
  dnB (dnXc L xs (s18 + 2)) fun v284 =>
  dnB (dnXc L xs (s18 + 3)) fun v285 =>
  dnB (dnXc L xs (s18 + 4)) fun v286 =>
  dnB (dnXc L xs (s18 + 5)) fun v287 =>
  dnB (dnXc L xs (s18 + 6)) fun v288 =>
  dnB (dnCv c2 11 (fX13_put c2 v283 v284 v285 v286 ((((v287 : Int32).toInt64) <<< ((32 : Int32).toInt64 &&& 63)) ||| (((v288 : Int32).toInt64) &&& 4294967295)))) fun v289 =>
  if v282 = v289 then
  (fL_law_j2426 s18)
  else
  (dnP (.inr (.inr false))))
  else
  (if (v5 &&& 63) = 12 then
  (dnB (dnXc L xs (s18 + 1)) fun v264 =>
  dnB (dnXc L xs (s18 + 2)) fun v265 =>
  dnB (dnXc L xs (s18 + 3)) fun v266 =>
  dnB (dnXc L xs (s18 + 4)) fun v267 =>
  dnB (dnXc L xs (s18 + 5)) fun v268 =>
  dnB (dnCv c1 10 (fX12_find c1 v264 v265 v266 ((((v267 : Int32).toInt64) <<< ((32 : Int32).toInt64 &&& 63)) ||| (((v268 : Int32).toInt64) &&& 4294967295)))) fun v269 =>
  dnB (dnXc L xs (s18 + 1)) fun v270 =>
  dnB (dnXc L xs (s18 + 2)) fun v271 =>
  dnB (dnXc L xs (s18 + 3)) fun v272 =>
  dnB (dnXc L xs (s18 + 4)) fun v273 =>
  dnB (dnXc L xs (s18 + 5)) fun v274 =>
  dnB (dnCv c2 11 (fX13_find c2 v270 v271 v272 ((((v273 : Int32).toInt64) <<< ((32 : Int32).toInt64 &&& 63)) ||| (((v274 : Int32).toInt64) &&& 4294967295)))) fun v275 =>
  if v269 = v275 then
  (fL_law_j2426 s18)
  else
  (dnP (.inr (.inr false))))
  else
  (if (v5 &&& 63) = 13 then
  (dnB (dnXc L xs (s18 + 1)) fun v254 =>
  dnB (dnXc L xs (s18 + 2)) fun v255 =>
  dnB (dnXc L xs (s18 + 3)) fun v256 =>
  dnB (dnXc L xs (s18 + 4)) fun v257 =>
  dnB (dnCv c1 10 (fX12_alike c1 v254 v255 v256 v257)) fun v258 =>
  dnB (dnXc L xs (s18 + 1)) fun v259 =>
  dnB (dnXc L xs (s18 + 2)) fun v260 =>
  dnB (dnXc L xs (s18 + 3)) fun v261 =>
  dnB (dnXc L xs (s18 + 4)) fun v262 =>
  dnB (dnCv c2 11 (fX13_alike c2 v259 v260 v261 v262)) fun v263 =>
  if v258 = v263 then
  (fL_law_j2426 s18)
  else
  (dnP (.inr (.inr false))))
  else
  (if (v5 &&& 63) = 14 then
  (dnB (dnXc L xs (s18 + 1)) fun v242 =>
  dnB (dnXc L xs (s18 + 2)) fun v243 =>
  dnB (dnXc L xs (s18 + 3)) fun v244 =>
  dnB (dnXc L xs (s18 + 4)) fun v245 =>
  dnB (dnXc L xs (s18 + 5)) fun v246 =>
  dnB (dnCv c1 10 (fX12_cut c1 v242 v243 v244 v245 v246)) fun v247 =>
  dnB (dnXc L xs (s18 + 1)) fun v248 =>
  dnB (dnXc L xs (s18 + 2)) fun v249 =>
  dnB (dnXc L xs (s18 + 3)) fun v250 =>
  dnB (dnXc L xs (s18 + 4)) fun v251 =>
  dnB (dnXc L xs (s18 + 5)) fun v252 =>
  dnB (dnCv c2 11 (fX13_cut c2 v248 v249 v250 v251 v252)) fun v253 =>
  if v247 = v253 then
  (fL_law_j2426 s18)
  else
  (dnP (.inr (.inr false))))
  else
  (if (v5 &&& 63) = 15 then
  (dnB (dnXc L xs (s18 + 1)) fun v234 =>
  dnB (dnXc L xs (s18 + 2)) fun v235 =>
  dnB (dnXc L xs (s18 + 3)) fun v236 =>
  dnB (dnCv c1 10 (fX12_cast c1 v234 v235 v236)) fun v237 =>
  dnB (dnXc L xs (s18 + 1)) fun v238 =>
  dnB (dnXc L xs (s18 + 2)) fun v239 =>
  dnB (dnXc L xs (s18 + 3)) fun v240 =>
  dnB (dnCv c2 11 (fX13_cast c2 v238 v239 v240)) fun v241 =>
  if v237 = v241 then
  (fL_law_j2426 s18)
  else
  (dnP (.inr (.inr false))))
  else
  (if (v5 &&& 63) = 16 then
  (dnB (dnXc L xs (s18 + 1)) fun v224 =>
  dnB (dnXc L xs (s18 + 2)) fun v225 =>
  dnB (dnXc L xs (s18 + 3)) fun v226 =>
  dnB (dnXc L xs (s18 + 4)) fun v227 =>
  dnB (dnCv c1 10 (fX12_pour c1 v224 v225 v226 v227)) fun v228 =>
  dnB (dnXc L xs (s18 + 1)) fun v229 =>
  dnB (dnXc L xs (s18 + 2)) fun v230 =>
  dnB (dnXc L xs (s18 + 3)) fun v231 =>
  dnB (dnXc L xs (s18 + 4)) fun v232 =>
  dnB (dnCv c2 11 (fX13_pour c2 v229 v230 v231 v232)) fun v233 =>
  if v228 = v233 then
  (fL_law_j2426 s18)
  else
  (dnP (.inr (.inr false))))
  else
  (if (v5 &&& 63) = 17 then
  (dnB (dnXc L xs (s18 + 1)) fun v216 =>
  dnB (dnXc L xs (s18 + 2)) fun v217 =>
  dnB (dnXc L xs (s18 + 3)) fun v218 =>
  dnB (dnCv c1 10 (fX12_join c1 v216 v217 v218)) fun v219 =>
  dnB (dnXc L xs (s18 + 1)) fun v220 =>
  dnB (dnXc L xs (s18 + 2)) fun v221 =>
  dnB (dnXc L xs (s18 + 3)) fun v222 =>
  dnB (dnCv c2 11 (fX13_join c2 v220 v221 v222)) fun v223 =>
  if v219 = v223 then
  (fL_law_j2426 s18)
  else
  (dnP (.inr (.inr false))))
  else
  (if (v5 &&& 63) = 18 then
  (dnB (dnXc L xs (s18 + 1)) fun v210 =>
  dnB (dnXc L xs (s18 + 2)) fun v211 =>
  dnB (dnCv c1 10 (fX12_flip c1 v210 v211)) fun v212 =>
  dnB (dnXc L xs (s18 + 1)) fun v213 =>
  dnB (dnXc L xs (s18 + 2)) fun v214 =>
  dnB (dnCv c2 11 (fX13_flip c2 v213 v214)) fun v215 =>
  if v212 = v215 then
  (fL_law_j2426 s18)
  else
  (dnP (.inr (.inr false))))
  else
  (if (v5 &&& 63) = 19 then
  (dnB (dnXc L xs (s18 + 1)) fun v202 =>
  dnB (dnXc L xs (s18 + 2)) fun v203 =>
  dnB (dnXc L xs (s18 + 3)) fun v204 =>
  dnB (dnCv c1 10 (fX12_roll c1 v202 v203 v204)) fun v205 =>
  dnB (dnXc L xs (s18 + 1)) fun v206 =>
  dnB (dnXc L xs (s18 + 2)) fun v207 =>
  dnB (dnXc L xs (s18 + 3)) fun v208 =>
  dnB (dnCv c2 11 (fX13_roll c2 v206 v207 v208)) fun v209 =>
  if v205 = v209 then
  (fL_law_j2426 s18)
  else
  (dnP (.inr (.inr false))))
  else
  (if (v5 &&& 63) = 20 then
  (dnB (dnXc L xs (s18 + 1)) fun v196 =>
  dnB (dnXc L xs (s18 + 2)) fun v197 =>
  dnB (dnCv c1 10 (fX12_order c1 v196 v197)) fun v198 =>
  dnB (dnXc L xs (s18 + 1)) fun v199 =>
  dnB (dnXc L xs (s18 + 2)) fun v200 =>
  dnB (dnCv c2 11 (fX13_order c2 v199 v200)) fun v201 =>
  if v198 = v201 then
  (fL_law_j2426 s18)
  else
  (dnP (.inr (.inr false))))
  else
  (if (v5 &&& 63) = 21 then
  (dnB (dnXc L xs (s18 + 1)) fun v186 =>
  dnB (dnXc L xs (s18 + 2)) fun v187 =>
  dnB (dnXc L xs (s18 + 3)) fun v188 =>
  dnB (dnXc L xs (s18 + 4)) fun v189 =>
  dnB (dnCv c1 10 (fX12_add c1 v186 v187 v188 v189)) fun v190 =>
  dnB (dnXc L xs (s18 + 1)) fun v191 =>
  dnB (dnXc L xs (s18 + 2)) fun v192 =>
  dnB (dnXc L xs (s18 + 3)) fun v193 =>
  dnB (dnXc L xs (s18 + 4)) fun v194 =>
  dnB (dnCv c2 11 (fX13_add c2 v191 v192 v193 v194)) fun v195 =>
  if v190 = v195 then
  (fL_law_j2426 s18)
  else
  (dnP (.inr (.inr false))))
  else
  (if (v5 &&& 63) = 22 then
  (dnB (dnXc L xs (s18 + 1)) fun v172 =>
  dnB (dnXc L xs (s18 + 2)) fun v173 =>
  dnB (dnXc L xs (s18 + 3)) fun v174 =>
  dnB (dnXc L xs (s18 + 4)) fun v175 =>
  dnB (dnXc L xs (s18 + 5)) fun v176 =>
  dnB (dnXc L xs (s18 + 6)) fun v177 =>
  dnB (dnCv c1 10 (fX12_above c1 v172 v173 v174 ((((v175 : Int32).toInt64) <<< ((32 : Int32).toInt64 &&& 63)) ||| (((v176 : Int32).toInt64) &&& 4294967295)) v177)) fun v178 =>
  dnB (dnXc L xs (s18 + 1)) fun v179 =>
  dnB (dnXc L xs (s18 + 2)) fun v180 =>
  dnB (dnXc L xs (s18 + 3)) fun v181 =>
  dnB (dnXc L xs (s18 + 4)) fun v182 =>
  dnB (dnXc L xs (s18 + 5)) fun v183 =>
  dnB (dnXc L xs (s18 + 6)) fun v184 =>
  dnB (dnCv c2 11 (fX13_above c2 v179 v180 v181 ((((v182 : Int32).toInt64) <<< ((32 : Int32).toInt64 &&& 63)) ||| (((v183 : Int32).toInt64) &&& 4294967295)) v184)) fun v185 =>
  if v178 = v185 then
  (fL_law_j2426 s18)
  else
  (dnP (.inr (.inr false))))
  else
  (if (v5 &&& 63) = 23 then
  (dnB (dnXc L xs (s18 + 1)) fun v164 =>
  dnB (dnXc L xs (s18 + 2)) fun v165 =>
  dnB (dnXc L xs (s18 + 3)) fun v166 =>
  dnB (dnCv c1 10 (fX12_pick c1 v164 v165 v166)) fun v167 =>
  dnB (dnXc L xs (s18 + 1)) fun v168 =>
  dnB (dnXc L xs (s18 + 2)) fun v169 =>
  dnB (dnXc L xs (s18 + 3)) fun v170 =>
  dnB (dnCv c2 11 (fX13_pick c2 v168 v169 v170)) fun v171 =>
  if v167 = v171 then
  (fL_law_j2426 s18)
  else
  (dnP (.inr (.inr false))))
  else
  (if (v5 &&& 63) = 24 then
  (dnB (dnXc L xs (s18 + 1)) fun v156 =>
  dnB (dnXc L xs (s18 + 2)) fun v157 =>
  dnB (dnXc L xs (s18 + 3)) fun v158 =>
  dnB (dnCv c1 10 (fX12_flat c1 v156 v157 v158)) fun v159 =>
  dnB (dnXc L xs (s18 + 1)) fun v160 =>
  dnB (dnXc L xs (s18 + 2)) fun v161 =>
  dnB (dnXc L xs (s18 + 3)) fun v162 =>
  dnB (dnCv c2 11 (fX13_flat c2 v160 v161 v162)) fun v163 =>
  if v159 = v163 then
  (fL_law_j2426 s18)
  else
  (dnP (.inr (.inr false))))
  else
  (if (v5 &&& 63) = 25 then
  (dnB (dnXc L xs (s18 + 1)) fun v146 =>
  dnB (dnXc L xs (s18 + 2)) fun v147 =>
  dnB (dnXc L xs (s18 + 3)) fun v148 =>
  dnB (dnXc L xs (s18 + 4)) fun v149 =>
  dnB (dnCv c1 10 (fX12_deal c1 v146 v147 v148 v149)) fun v150 =>
  dnB (dnXc L xs (s18 + 1)) fun v151 =>
  dnB (dnXc L xs (s18 + 2)) fun v152 =>
  dnB (dnXc L xs (s18 + 3)) fun v153 =>
  dnB (dnXc L xs (s18 + 4)) fun v154 =>
  dnB (dnCv c2 11 (fX13_deal c2 v151 v152 v153 v154)) fun v155 =>
  if v150 = v155 then
  (fL_law_j2426 s18)
  else
  (dnP (.inr (.inr false))))
  else
  (if (v5 &&& 63) = 26 then
  (dnB (dnXc L xs (s18 + 1)) fun v140 =>
  dnB (dnXc L xs (s18 + 2)) fun v141 =>
  dnB (dnCv c1 10 (fX12_turn c1 v140 v141)) fun v142 =>
  dnB (dnXc L xs (s18 + 1)) fun v143 =>
  dnB (dnXc L xs (s18 + 2)) fun v144 =>
  dnB (dnCv c2 11 (fX13_turn c2 v143 v144)) fun v145 =>
  if v142 = v145 then
  (fL_law_j2426 s18)
  else
  (dnP (.inr (.inr false))))
  else
  (if (v5 &&& 63) = 27 then
  (dnB (dnXc L xs (s18 + 1)) fun v132 =>
  dnB (dnXc L xs (s18 + 2)) fun v133 =>
  dnB (dnXc L xs (s18 + 3)) fun v134 =>
  dnB (dnCv c1 10 (fX12_times c1 v132 v133 v134)) fun v135 =>
  dnB (dnXc L xs (s18 + 1)) fun v136 =>
  dnB (dnXc L xs (s18 + 2)) fun v137 =>
  dnB (dnXc L xs (s18 + 3)) fun v138 =>
  dnB (dnCv c2 11 (fX13_times c2 v136 v137 v138)) fun v139 =>
  if v135 = v139 then
  (fL_law_j2426 s18)
  else
  (dnP (.inr (.inr false))))
  else
  (if (v5 &&& 63) = 28 then
  (dnB (dnXc L xs (s18 + 1)) fun v120 =>
  dnB (dnXc L xs (s18 + 2)) fun v121 =>
  dnB (dnXc L xs (s18 + 3)) fun v122 =>
  dnB (dnXc L xs (s18 + 4)) fun v123 =>
  dnB (dnXc L xs (s18 + 5)) fun v124 =>
  dnB (dnCv c1 10 (fX12_fold c1 v120 v121 v122 v123 v124)) fun v125 =>
  dnB (dnXc L xs (s18 + 1)) fun v126 =>
  dnB (dnXc L xs (s18 + 2)) fun v127 =>
  dnB (dnXc L xs (s18 + 3)) fun v128 =>
  dnB (dnXc L xs (s18 + 4)) fun v129 =>
  dnB (dnXc L xs (s18 + 5)) fun v130 =>
  dnB (dnCv c2 11 (fX13_fold c2 v126 v127 v128 v129 v130)) fun v131 =>
  if v125 = v131 then
  (fL_law_j2426 s18)
  else
  (dnP (.inr (.inr false))))
  else
  (if (v5 &&& 63) = 29 then
  (dnB (dnXc L xs (s18 + 1)) fun v108 =>
  dnB (dnXc L xs (s18 + 2)) fun v109 =>
  dnB (dnXc L xs (s18 + 3)) fun v110 =>
  dnB (dnXc L xs (s18 + 4)) fun v111 =>
  dnB (dnXc L xs (s18 + 5)) fun v112 =>
  dnB (dnCv c1 10 (fX12_dot c1 v108 v109 v110 v111 v112)) fun v113 =>
  dnB (dnXc L xs (s18 + 1)) fun v114 =>
  dnB (dnXc L xs (s18 + 2)) fun v115 =>
  dnB (dnXc L xs (s18 + 3)) fun v116 =>
  dnB (dnXc L xs (s18 + 4)) fun v117 =>
  dnB (dnXc L xs (s18 + 5)) fun v118 =>
  dnB (dnCv c2 11 (fX13_dot c2 v114 v115 v116 v117 v118)) fun v119 =>
  if v113 = v119 then
  (fL_law_j2426 s18)
  else
  (dnP (.inr (.inr false))))
  else
  (if (v5 &&& 63) = 30 then
  (dnB (dnXc L xs (s18 + 1)) fun v104 =>
  dnB (dnCv c1 10 (fX12_trail c1 v104)) fun v105 =>
  dnB (dnXc L xs (s18 + 1)) fun v106 =>
  dnB (dnCv c2 11 (fX13_trail c2 v106)) fun v107 =>
  if v105 = v107 then
  (fL_law_j2426 s18)
  else
  (dnP (.inr (.inr false))))
  else
  (if (v5 &&& 63) = 31 then
  (dnB (dnXc L xs (s18 + 1)) fun v96 =>
  dnB (dnXc L xs (s18 + 2)) fun v97 =>
  dnB (dnXc L xs (s18 + 3)) fun v98 =>
  dnB (dnCv c1 10 (fX12_patch c1 v96 v97 v98)) fun v99 =>
  dnB (dnXc L xs (s18 + 1)) fun v100 =>
  dnB (dnXc L xs (s18 + 2)) fun v101 =>
  dnB (dnXc L xs (s18 + 3)) fun v102 =>
  dnB (dnCv c2 11 (fX13_patch c2 v100 v101 v102)) fun v103 =>
  if v99 = v103 then
  (fL_law_j2426 s18)
  else
  (dnP (.inr (.inr false))))
  else
  (if (v5 &&& 63) = 32 then
  (dnB (dnXc L xs (s18 + 1)) fun v92 =>
  dnB (dnCv c1 10 (fX12_patches c1 v92)) fun v93 =>
  dnB (dnXc L xs (s18 + 1)) fun v94 =>
  dnB (dnCv c2 11 (fX13_patches c2 v94)) fun v95 =>
  if v93 = v95 then
  (fL_law_j2426 s18)
  else
  (dnP (.inr (.inr false))))
  else
  (if (v5 &&& 63) = 33 then
  (dnB (dnXc L xs (s18 + 1)) fun v78 =>
  dnB (dnXc L xs (s18 + 2)) fun v79 =>
  dnB (dnXc L xs (s18 + 3)) fun v80 =>
  dnB (dnXc L xs (s18 + 4)) fun v81 =>
  dnB (dnXc L xs (s18 + 5)) fun v82 =>
  dnB (dnXc L xs (s18 + 6)) fun v83 =>
  dnB (dnCv c1 10 (fX12_paint c1 v78 v79 v80 v81 ((((v82 : Int32).toInt64) <<< ((32 : Int32).toInt64 &&& 63)) ||| (((v83 : Int32).toInt64) &&& 4294967295)))) fun v84 =>
  dnB (dnXc L xs (s18 + 1)) fun v85 =>
  dnB (dnXc L xs (s18 + 2)) fun v86 =>
  dnB (dnXc L xs (s18 + 3)) fun v87 =>
  dnB (dnXc L xs (s18 + 4)) fun v88 =>
  dnB (dnXc L xs (s18 + 5)) fun v89 =>
  dnB (dnXc L xs (s18 + 6)) fun v90 =>
  dnB (dnCv c2 11 (fX13_paint c2 v85 v86 v87 v88 ((((v89 : Int32).toInt64) <<< ((32 : Int32).toInt64 &&& 63)) ||| (((v90 : Int32).toInt64) &&& 4294967295)))) fun v91 =>
  if v84 = v91 then
  (fL_law_j2426 s18)
  else
  (dnP (.inr (.inr false))))
  else
  (if (v5 &&& 63) = 34 then
  (dnB (dnXc L xs (s18 + 1)) fun v74 =>
  dnB (dnCv c1 10 (fX12_block c1 v74)) fun v75 =>
  dnB (dnXc L xs (s18 + 1)) fun v76 =>
  dnB (dnCv c2 11 (fX13_block c2 v76)) fun v77 =>
  if v75 = v77 then
  (fL_law_j2426 s18)
  else
  (dnP (.inr (.inr false))))
  else
  (if (v5 &&& 63) = 35 then
  (dnB (dnXc L xs (s18 + 1)) fun v66 =>
  dnB (dnXc L xs (s18 + 2)) fun v67 =>
  dnB (dnXc L xs (s18 + 3)) fun v68 =>
  dnB (dnCv c1 10 (fX12_lies c1 v66 v67 v68)) fun v69 =>
  dnB (dnXc L xs (s18 + 1)) fun v70 =>
  dnB (dnXc L xs (s18 + 2)) fun v71 =>
  dnB (dnXc L xs (s18 + 3)) fun v72 =>
  dnB (dnCv c2 11 (fX13_lies c2 v70 v71 v72)) fun v73 =>
  if v69 = v73 then
  (fL_law_j2426 s18)
  else
  (dnP (.inr (.inr false))))
  else
  (if (v5 &&& 63) = 36 then
  (dnB (dnXc L xs (s18 + 1)) fun v62 =>
  dnB (dnCv c1 10 (fX12_type c1 v62)) fun v63 =>
  dnB (dnXc L xs (s18 + 1)) fun v64 =>
  dnB (dnCv c2 11 (fX13_type c2 v64)) fun v65 =>
  if v63 = v65 then
  (fL_law_j2426 s18)
  else
  (dnP (.inr (.inr false))))
  else
  (if (v5 &&& 63) = 37 then
  (dnB (dnCv c1 10 (fX12_clear c1)) fun v60 =>
  dnB (dnCv c2 11 (fX13_clear c2)) fun v61 =>
  if v60 = v61 then
  (fL_law_j2426 s18)
  else
  (dnP (.inr (.inr false))))
  else
  (if (v5 &&& 63) = 38 then
  (dnB (dnCv c1 10 (fX12_plan c1)) fun v58 =>
  dnB (dnCv c2 11 (fX13_plan c2)) fun v59 =>
  if v58 = v59 then
  (fL_law_j2426 s18)
  else
  (dnP (.inr (.inr false))))
  else
  (if (v5 &&& 63) = 39 then
  (dnB (dnXc L xs (s18 + 1)) fun v52 =>
  dnB (dnXc L xs (s18 + 2)) fun v53 =>
  dnB (dnCv c1 10 (fX12_least c1 v52 v53)) fun v54 =>
  dnB (dnXc L xs (s18 + 1)) fun v55 =>
  dnB (dnXc L xs (s18 + 2)) fun v56 =>
  dnB (dnCv c2 11 (fX13_least c2 v55 v56)) fun v57 =>
  if v54 = v57 then
  (fL_law_j2426 s18)
  else
  (dnP (.inr (.inr false))))
  else
  (if (v5 &&& 63) = 40 then
  (dnB (dnXc L xs (s18 + 1)) fun v46 =>
  dnB (dnXc L xs (s18 + 2)) fun v47 =>
  dnB (dnCv c1 10 (fX12_fits c1 v46 v47)) fun v48 =>
  dnB (dnXc L xs (s18 + 1)) fun v49 =>
  dnB (dnXc L xs (s18 + 2)) fun v50 =>
  dnB (dnCv c2 11 (fX13_fits c2 v49 v50)) fun v51 =>
  if v48 = v51 then
  (fL_law_j2426 s18)
  else
  (dnP (.inr (.inr false))))
  else
  (if (v5 &&& 63) = 41 then
  (dnB (dnXc L xs (s18 + 1)) fun v40 =>
  dnB (dnXc L xs (s18 + 2)) fun v41 =>
  dnB (dnCv c1 10 (fX12_sees c1 v40 v41)) fun v42 =>
  dnB (dnXc L xs (s18 + 1)) fun v43 =>
  dnB (dnXc L xs (s18 + 2)) fun v44 =>
  dnB (dnCv c2 11 (fX13_sees c2 v43 v44)) fun v45 =>
  if v42 = v45 then
  (fL_law_j2426 s18)
  else
  (dnP (.inr (.inr false))))
  else
  (if (v5 &&& 63) = 42 then
  (dnB (dnCv c1 10 (fX12_forget c1)) fun v38 =>
  dnB (dnCv c2 11 (fX13_forget c2)) fun v39 =>
  if v38 = v39 then
  (fL_law_j2426 s18)
  else
  (dnP (.inr (.inr false))))
  else
  (if (v5 &&& 63) = 43 then
  (dnB (dnCv c1 10 (fX12_left c1)) fun v36 =>
  dnB (dnCv c2 11 (fX13_left c2)) fun v37 =>
  if v36 = v37 then
  (fL_law_j2426 s18)
  else
  (dnP (.inr (.inr false))))
  else
  (if (v5 &&& 63) = 44 then
  (dnB (dnCv c1 10 (fX12_next c1)) fun v34 =>
  dnB (dnCv c2 11 (fX13_next c2)) fun v35 =>
  if v34 = v35 then
  (fL_law_j2426 s18)
  else
  (dnP (.inr (.inr false))))
  else
  (if (v5 &&& 63) = 45 then
  (dnB (dnXc L xs (s18 + 1)) fun v30 =>
  dnB (dnCv c1 10 (fX12_keep c1 v30)) fun v31 =>
  dnB (dnXc L xs (s18 + 1)) fun v32 =>
  dnB (dnCv c2 11 (fX13_keep c2 v32)) fun v33 =>
  if v31 = v33 then
  (fL_law_j2426 s18)
  else
  (dnP (.inr (.inr false))))
  else
  (if (v5 &&& 63) = 46 then
  (dnB (dnXc L xs (s18 + 1)) fun v26 =>
  dnB (dnCv c1 10 (fX12_back c1 v26)) fun v27 =>
  dnB (dnXc L xs (s18 + 1)) fun v28 =>
  dnB (dnCv c2 11 (fX13_back c2 v28)) fun v29 =>
  if v27 = v29 then
  (fL_law_j2426 s18)
  else
  (dnP (.inr (.inr false))))
  else
  (if (v5 &&& 63) = 47 then
  (dnB (dnCv c1 10 (fX12_told c1)) fun v24 =>
  dnB (dnCv c2 11 (fX13_told c2)) fun v25 =>
  if (lg_cmp v24 v25) = 0 then
  (fL_law_j2426 s18)
  else
  (dnP (.inr (.inr false))))
  else
  (if (v5 &&& 63) = 48 then
  (dnB (dnCv c1 10 (fX12_first c1)) fun v22 =>
  dnB (dnCv c2 11 (fX13_first c2)) fun v23 =>
  if v22 = v23 then
  (fL_law_j2426 s18)
  else
  (dnP (.inr (.inr false))))
  else
  (if (v5 &&& 63) = 49 then
  (dnB (dnCv c1 10 (fX12_passed c1)) fun v20 =>
  dnB (dnCv c2 11 (fX13_passed c2)) fun v21 =>
  if v20 = v21 then
  (fL_law_j2426 s18)
  else
  (dnP (.inr (.inr false))))
  else
  (if (v5 &&& 63) = 50 then
  (dnB (dnXc L xs (s18 + 1)) fun v16 =>
  dnB (dnCv c1 10 (fX12_refusals c1 v16)) fun v17 =>
  dnB (dnXc L xs (s18 + 1)) fun v18 =>
  dnB (dnCv c2 11 (fX13_refusals c2 v18)) fun v19 =>
  if v17 = v19 then
  (fL_law_j2426 s18)
  else
  (dnP (.inr (.inr false))))
  else
  (if (v5 &&& 63) = 51 then
  (dnB (dnXc L xs (s18 + 1)) fun v12 =>
  dnB (dnCv c1 10 (fX12_count c1 v12)) fun v13 =>
  dnB (dnXc L xs (s18 + 1)) fun v14 =>
  dnB (dnCv c2 11 (fX13_count c2 v14)) fun v15 =>
  if v13 = v15 then
  (fL_law_j2426 s18)
  else
  (dnP (.inr (.inr false))))
  else
  (if (v5 &&& 63) = 52 then
  (dnB (dnXc L xs (s18 + 1)) fun v8 =>
  dnB (dnCv c1 10 (fX12_kinds c1 v8)) fun v9 =>
  dnB (dnXc L xs (s18 + 1)) fun v10 =>
  dnB (dnCv c2 11 (fX13_kinds c2 v10)) fun v11 =>
  if v9 = v11 then
  (fL_law_j2426 s18)
  else
  (dnP (.inr (.inr false))))
  else
  (if (v5 &&& 63) = 53 then
  (dnB (dnCv c1 10 (fX12_digest c1)) fun v6 =>
  dnB (dnCv c2 11 (fX13_digest c2)) fun v7 =>
  if (lg_cmp v6 v7) = 0 then
  (fL_law_j2426 s18)
  else
  (dnP (.inr (.inr false))))
  else
  (fL_law_j2426 s18)))))))))))))))))))))))))))))))))))))))))))))))))))))))
def fL_law (L : Nat) (xs : Nat → Int32) : dnM Bool :=
  dnB (dnNo 10) fun v1 =>
  dnB (dnCv v1 10 (fX12_init v1)) fun _ =>
  dnB (dnNo 11) fun v3 =>
  dnB (dnCv v3 11 (fX13_init v3)) fun _ =>
  dnB (dnIt 1000 (fL_law_b18 L xs v1 v3) 0) fun q_ => q_.elim (fun q18 => dnP true) (fun v_ => dnP v_)
abbrev jL_law (w : dnWd) (x : dnX) (b bs L : Nat) (xs : Nat → Int32) (nm : String) := dnD w x b (dnG b bs L xs) cL_law RL 4 room_1 nm eZ
set_option maxHeartbeats 40000000 in
set_option maxRecDepth 100000 in
theorem mL_lawN (w : dnWd) (x : dnX) (b bs L : Nat) (xs : Nat → Int32) (hL : L ≤ 3584) (nm : String) : jL_law w x b bs L xs nm 0 0 0 [(0, .ref bs)] [] (fL_law L xs) := by
  refine dn_top ?_
  unfold fL_law
  refine dn_new (pc := 0) cl_10 (by decide) kRL_7 ki_10 kn_10 ⟨(Nat.le_of_ble_eq_true rfl), (Nat.le_of_ble_eq_true rfl)⟩ dL_law_0 (fun v1 => ?_)
  refine dn_dup (pc := 3) dL_law_3 (dn_cat b _) ?_
  refine dn_callIU (pc := 4) [] v1 kRL_9 (mX12_init w x b v1) rfl rfl (Nat.le_of_ble_eq_true rfl) ⟨(Nat.le_of_ble_eq_true rfl), (Nat.le_of_ble_eq_true rfl)⟩ ⟨(Nat.le_of_ble_eq_true rfl), (Nat.le_of_ble_eq_true rfl)⟩ dL_law_4 (fun _ => ?_)
  refine dn_astore_n (pc := 7) v1 dL_law_7 (Nat.le_of_ble_eq_true rfl) (dnKp_nb 0 rfl rfl rfl (dnKp_of (lv2 := []) [] rfl rfl)) ?_
  refine dn_new (pc := 8) cl_11 (by decide) kRL_10 ki_11 kn_11 ⟨(Nat.le_of_ble_eq_true rfl), (Nat.le_of_ble_eq_true rfl)⟩ dL_law_8 (fun v3 => ?_)
  refine dn_dup (pc := 11) dL_law_11 (dn_cat b _) ?_
  refine dn_callIU (pc := 12) [] v3 kRL_12 (mX13_init w x b v3) rfl rfl (Nat.le_of_ble_eq_true rfl) ⟨(Nat.le_of_ble_eq_true rfl), (Nat.le_of_ble_eq_true rfl)⟩ ⟨(Nat.le_of_ble_eq_true rfl), (Nat.le_of_ble_eq_true rfl)⟩ dL_law_12 (fun _ => ?_)
  refine dn_astore_n (pc := 15) v3 dL_law_15 (Nat.le_of_ble_eq_true rfl) (dnKp_nb 0 rfl (dn_cat b _) rfl (dnKp_of (lv2 := [(0, .ref bs)]) [1] rfl rfl)) ?_
  refine dn_iconst (pc := 16) (v := 0) dL_law_16 rfl ?_
  refine dn_istore_n (pc := 17) dL_law_17 (Nat.le_of_ble_eq_true rfl) (dnKp_nb 0 rfl (dn_cat b _) rfl (dnKp_of (lv2 := [(1, dnV b v1), (0, .ref bs)]) [1, 2] rfl rfl)) ?_
  refine dn_assoc ?_
  refine dn_lv [3, 2, 1, 0] (lv2 := (fun s => [(0, .ref bs), (1, dnV b v1), (2, dnV b v3), (3, .int s)]) 0) rfl ?_
  refine dn_widen (cells2 := 400 + 128 * (0 : Int32).toNatClampNeg) (slots2 := 9000 + 1371 * (0 : Int32).toNatClampNeg) (by decide) (by decide) ?_
  refine dn_loopIR (pc := 18) (body := fL_law_b18 L xs v1 v3) (fun s => 0 ≤ s.toInt ∧ s.toInt ≤ 3591) (fun s => 400 + 128 * s.toNatClampNeg) (fun s => 9000 + 1371 * s.toNatClampNeg) 2432 600000 7302250 (fun s => [(0, .ref bs), (1, dnV b v1), (2, dnV b v3), (3, .int s)]) (fun q => []) (fun s18 hI K18 E18 hK18 hE18 hR18 => ?_) (dn_rt (Nat.le_of_ble_eq_true rfl) (Nat.le_of_ble_eq_true rfl) (fun _ => rfl)) (fun q18 => ?_) 1000 0 (by decide)
  · have hN18 : s18.toNatClampNeg = s18.toInt.toNat := rfl
    have hj2426 : s18.toInt ≤ 3577 → jL_law w x b bs L xs nm 2426 (400 + 128 * s18.toNatClampNeg + 128) (9000 + 1371 * s18.toNatClampNeg + 1371) [(0, .ref bs), (1, dnV b v1), (2, dnV b v3), (3, .int s18)] [] (dnB (fL_law_j2426 s18) (dnKo K18 E18)) := by
      intro hle
      unfold fL_law_j2426
      refine dn_iinc (pc := 2426) (s18 + 7) 3 dL_law_2426 rfl rfl (Nat.le_of_ble_eq_true rfl) (dnKp_nb 2 rfl (dn_cat b _) rfl (dnKp_of (lv2 := [(0, .ref bs), (1, dnV b v1)]) [0, 1] rfl rfl)) ?_
      refine dn_goto (pc := 2429) 18 dL_law_2429 rfl ?_
      refine dn_leaf ?_
      have e1 : (s18 + 7).toInt = s18.toInt + 7 := by
        rw [Int32.toInt_add]
        have : (7 : Int32).toInt = 7 := rfl
        rw [this]
        exact Int.bmod_eq_of_le (by omega) (by omega)
      have hN1 : (s18 + 7).toNatClampNeg = (s18 + 7).toInt.toNat := rfl
      refine dn_widen (cells2 := 400 + 128 * (s18 + 7).toNatClampNeg) (slots2 := 9000 + 1371 * (s18 + 7).toNatClampNeg) (by omega) (by omega) ?_
      exact dn_lv [2, 3, 1, 0] rfl (hK18 (s18 + 7) (by omega))
    unfold fL_law_b18
    refine dn_iload_n (pc := 18) 3 dL_law_18 rfl ?_
    refine dn_aloadX_n (pc := 19) 0 dL_law_19 rfl ?_
    refine dn_slen (pc := 20) dL_law_20 ?_
    refine dn_bipush (pc := 21) (v := 7) dL_law_21 rfl ?_
    refine dn_isub (pc := 23) dL_law_23 ?_
    refine dn_icmp_gt (pc := 24) 2432 dL_law_24 rfl (fun _ => ?_) (fun hgt => ?_)
    · refine dn_leaf ?_
      refine dn_widen (cells2 := 600000) (slots2 := 7302250) (by show 400 + 128 * s18.toNatClampNeg ≤ 600000; omega) (by show 9000 + 1371 * s18.toNatClampNeg ≤ 7302250; omega) ?_
      exact dn_lv [] rfl (hE18 ())
    · have hle18 : s18.toInt ≤ 3577 := law_le hL hI.1 hgt
      refine dn_aloadX_n (pc := 27) 0 dL_law_27 rfl ?_
      refine dn_iload_n (pc := 28) 3 dL_law_28 rfl ?_
      refine dn_sald (pc := 29) dL_law_29 (fun v5 => ?_)
      refine dn_bipush (pc := 30) (v := 63) dL_law_30 rfl ?_
      refine dn_iand (pc := 32) dL_law_32 ?_
      refine dn_tcase (pc := 33) 0 264 dL_law_33 (by decide) (by decide) rfl rfl (fun _ => ?_) (fun n33_0 => ?_)
      · refine dn_aload_n (pc := 264) v1 1 dL_law_264 rfl ?_
        refine dn_aloadX_n (pc := 265) 0 dL_law_265 rfl ?_
        refine dn_iload_n (pc := 266) 3 dL_law_266 rfl ?_
        refine dn_iconst (pc := 267) (v := 1) dL_law_267 rfl ?_
        refine dn_iadd (pc := 268) dL_law_268 ?_
        refine dn_sald (pc := 269) dL_law_269 (fun v378 => ?_)
        refine dn_aloadX_n (pc := 270) 0 dL_law_270 rfl ?_
        refine dn_iload_n (pc := 271) 3 dL_law_271 rfl ?_
        refine dn_iconst (pc := 272) (v := 2) dL_law_272 rfl ?_
        refine dn_iadd (pc := 273) dL_law_273 ?_
        refine dn_sald (pc := 274) dL_law_274 (fun v379 => ?_)
        refine dn_callV0I (pc := 275) [.int v378, .int v379] v1 kRL_13 (mX12_grid w x b v1 v378 v379) rfl rfl (Nat.le_of_ble_eq_true rfl) ⟨(Nat.le_of_ble_eq_true rfl), (Nat.le_of_ble_eq_true rfl)⟩ ⟨rfl, rfl, (by show 400 + 128 * s18.toNatClampNeg ≤ 600000; omega), (by show 9000 + 1371 * s18.toNatClampNeg ≤ 7302250; omega)⟩ dL_law_275 (fun v380 => ?_)
        refine dn_aload_n (pc := 278) v3 2 dL_law_278 rfl ?_
        refine dn_aloadX_n (pc := 279) 0 dL_law_279 rfl ?_
        refine dn_iload_n (pc := 280) 3 dL_law_280 rfl ?_
        refine dn_iconst (pc := 281) (v := 1) dL_law_281 rfl ?_
        refine dn_iadd (pc := 282) dL_law_282 ?_
        refine dn_sald (pc := 283) dL_law_283 (fun v381 => ?_)
        refine dn_aloadX_n (pc := 284) 0 dL_law_284 rfl ?_
        refine dn_iload_n (pc := 285) 3 dL_law_285 rfl ?_
        refine dn_iconst (pc := 286) (v := 2) dL_law_286 rfl ?_
        refine dn_iadd (pc := 287) dL_law_287 ?_
        refine dn_sald (pc := 288) dL_law_288 (fun v382 => ?_)
        refine dn_callV0I (pc := 289) [.int v381, .int v382] v3 kRL_17 (mX13_grid w x b v3 v381 v382) rfl rfl (Nat.le_of_ble_eq_true rfl) ⟨(Nat.le_of_ble_eq_true rfl), (Nat.le_of_ble_eq_true rfl)⟩ ⟨rfl, rfl, (by show 400 + 128 * s18.toNatClampNeg ≤ 600000; omega), (by show 9000 + 1371 * s18.toNatClampNeg ≤ 7302250; omega)⟩ dL_law_289 (fun v383 => ?_)
        refine dn_icmp_eq (pc := 292) 2426 dL_law_292 rfl (fun _ => ?_) (fun _ => ?_)
        · refine dn_widen (cells2 := 400 + 128 * s18.toNatClampNeg + 128) (slots2 := 9000 + 1371 * s18.toNatClampNeg + 1371) (by show 400 + 128 * s18.toNatClampNeg ≤ 400 + 128 * s18.toNatClampNeg + 128; omega) (by show 9000 + 1371 * s18.toNatClampNeg ≤ 9000 + 1371 * s18.toNatClampNeg + 1371; omega) ?_
          exact dn_lv [0, 1, 2, 3] rfl (hj2426 hle18)
        · refine dn_iconst (pc := 295) (v := 0) dL_law_295 rfl ?_
          refine dn_leaf ?_
          refine dn_widen (cells2 := 600000) (slots2 := 7302250) (by show 400 + 128 * s18.toNatClampNeg ≤ 600000; omega) (by show 9000 + 1371 * s18.toNatClampNeg ≤ 7302250; omega) ?_
          exact hR18 false _ _ _ rfl dL_law_296
      · refine dn_tcase (pc := 33) 1 297 dL_law_33 (by decide) (by decide) rfl rfl (fun _ => ?_) (fun n33_1 => ?_)
        · refine dn_aload_n (pc := 297) v1 1 dL_law_297 rfl ?_
          refine dn_aloadX_n (pc := 298) 0 dL_law_298 rfl ?_
          refine dn_iload_n (pc := 299) 3 dL_law_299 rfl ?_
          refine dn_iconst (pc := 300) (v := 1) dL_law_300 rfl ?_
          refine dn_iadd (pc := 301) dL_law_301 ?_
          refine dn_sald (pc := 302) dL_law_302 (fun v374 => ?_)
          refine dn_callV0I (pc := 303) [.int v374] v1 kRL_18 (mX12_drop w x b v1 v374) rfl rfl (Nat.le_of_ble_eq_true rfl) ⟨(Nat.le_of_ble_eq_true rfl), (Nat.le_of_ble_eq_true rfl)⟩ ⟨rfl, rfl, (by show 400 + 128 * s18.toNatClampNeg ≤ 600000; omega), (by show 9000 + 1371 * s18.toNatClampNeg ≤ 7302250; omega)⟩ dL_law_303 (fun v375 => ?_)
          refine dn_aload_n (pc := 306) v3 2 dL_law_306 rfl ?_
          refine dn_aloadX_n (pc := 307) 0 dL_law_307 rfl ?_
          refine dn_iload_n (pc := 308) 3 dL_law_308 rfl ?_
          refine dn_iconst (pc := 309) (v := 1) dL_law_309 rfl ?_
          refine dn_iadd (pc := 310) dL_law_310 ?_
          refine dn_sald (pc := 311) dL_law_311 (fun v376 => ?_)
          refine dn_callV0I (pc := 312) [.int v376] v3 kRL_22 (mX13_drop w x b v3 v376) rfl rfl (Nat.le_of_ble_eq_true rfl) ⟨(Nat.le_of_ble_eq_true rfl), (Nat.le_of_ble_eq_true rfl)⟩ ⟨rfl, rfl, (by show 400 + 128 * s18.toNatClampNeg ≤ 600000; omega), (by show 9000 + 1371 * s18.toNatClampNeg ≤ 7302250; omega)⟩ dL_law_312 (fun v377 => ?_)
          refine dn_icmp_eq (pc := 315) 2426 dL_law_315 rfl (fun _ => ?_) (fun _ => ?_)
          · refine dn_widen (cells2 := 400 + 128 * s18.toNatClampNeg + 128) (slots2 := 9000 + 1371 * s18.toNatClampNeg + 1371) (by show 400 + 128 * s18.toNatClampNeg ≤ 400 + 128 * s18.toNatClampNeg + 128; omega) (by show 9000 + 1371 * s18.toNatClampNeg ≤ 9000 + 1371 * s18.toNatClampNeg + 1371; omega) ?_
            exact dn_lv [0, 1, 2, 3] rfl (hj2426 hle18)
          · refine dn_iconst (pc := 318) (v := 0) dL_law_318 rfl ?_
            refine dn_leaf ?_
            refine dn_widen (cells2 := 600000) (slots2 := 7302250) (by show 400 + 128 * s18.toNatClampNeg ≤ 600000; omega) (by show 9000 + 1371 * s18.toNatClampNeg ≤ 7302250; omega) ?_
            exact hR18 false _ _ _ rfl dL_law_319
        · refine dn_tcase (pc := 33) 2 320 dL_law_33 (by decide) (by decide) rfl rfl (fun _ => ?_) (fun n33_2 => ?_)
          · refine dn_aload_n (pc := 320) v1 1 dL_law_320 rfl ?_
            refine dn_aloadX_n (pc := 321) 0 dL_law_321 rfl ?_
            refine dn_iload_n (pc := 322) 3 dL_law_322 rfl ?_
            refine dn_iconst (pc := 323) (v := 1) dL_law_323 rfl ?_
            refine dn_iadd (pc := 324) dL_law_324 ?_
            refine dn_sald (pc := 325) dL_law_325 (fun v364 => ?_)
            refine dn_aloadX_n (pc := 326) 0 dL_law_326 rfl ?_
            refine dn_iload_n (pc := 327) 3 dL_law_327 rfl ?_
            refine dn_iconst (pc := 328) (v := 2) dL_law_328 rfl ?_
            refine dn_iadd (pc := 329) dL_law_329 ?_
            refine dn_sald (pc := 330) dL_law_330 (fun v365 => ?_)
            refine dn_aloadX_n (pc := 331) 0 dL_law_331 rfl ?_
            refine dn_iload_n (pc := 332) 3 dL_law_332 rfl ?_
            refine dn_iconst (pc := 333) (v := 3) dL_law_333 rfl ?_
            refine dn_iadd (pc := 334) dL_law_334 ?_
            refine dn_sald (pc := 335) dL_law_335 (fun v366 => ?_)
            refine dn_aloadX_n (pc := 336) 0 dL_law_336 rfl ?_
            refine dn_iload_n (pc := 337) 3 dL_law_337 rfl ?_
            refine dn_iconst (pc := 338) (v := 4) dL_law_338 rfl ?_
            refine dn_iadd (pc := 339) dL_law_339 ?_
            refine dn_sald (pc := 340) dL_law_340 (fun v367 => ?_)
            refine dn_callV0I (pc := 341) [.int v364, .int v365, .int v366, .int v367] v1 kRL_23 (mX12_row w x b v1 v364 v365 v366 v367) rfl rfl (Nat.le_of_ble_eq_true rfl) ⟨(Nat.le_of_ble_eq_true rfl), (Nat.le_of_ble_eq_true rfl)⟩ ⟨rfl, rfl, (by show 400 + 128 * s18.toNatClampNeg ≤ 600000; omega), (by show 9000 + 1371 * s18.toNatClampNeg ≤ 7302250; omega)⟩ dL_law_341 (fun v368 => ?_)
            refine dn_aload_n (pc := 344) v3 2 dL_law_344 rfl ?_
            refine dn_aloadX_n (pc := 345) 0 dL_law_345 rfl ?_
            refine dn_iload_n (pc := 346) 3 dL_law_346 rfl ?_
            refine dn_iconst (pc := 347) (v := 1) dL_law_347 rfl ?_
            refine dn_iadd (pc := 348) dL_law_348 ?_
            refine dn_sald (pc := 349) dL_law_349 (fun v369 => ?_)
            refine dn_aloadX_n (pc := 350) 0 dL_law_350 rfl ?_
            refine dn_iload_n (pc := 351) 3 dL_law_351 rfl ?_
            refine dn_iconst (pc := 352) (v := 2) dL_law_352 rfl ?_
            refine dn_iadd (pc := 353) dL_law_353 ?_
            refine dn_sald (pc := 354) dL_law_354 (fun v370 => ?_)
            refine dn_aloadX_n (pc := 355) 0 dL_law_355 rfl ?_
            refine dn_iload_n (pc := 356) 3 dL_law_356 rfl ?_
            refine dn_iconst (pc := 357) (v := 3) dL_law_357 rfl ?_
            refine dn_iadd (pc := 358) dL_law_358 ?_
            refine dn_sald (pc := 359) dL_law_359 (fun v371 => ?_)
            refine dn_aloadX_n (pc := 360) 0 dL_law_360 rfl ?_
            refine dn_iload_n (pc := 361) 3 dL_law_361 rfl ?_
            refine dn_iconst (pc := 362) (v := 4) dL_law_362 rfl ?_
            refine dn_iadd (pc := 363) dL_law_363 ?_
            refine dn_sald (pc := 364) dL_law_364 (fun v372 => ?_)
            refine dn_callV0I (pc := 365) [.int v369, .int v370, .int v371, .int v372] v3 kRL_27 (mX13_row w x b v3 v369 v370 v371 v372) rfl rfl (Nat.le_of_ble_eq_true rfl) ⟨(Nat.le_of_ble_eq_true rfl), (Nat.le_of_ble_eq_true rfl)⟩ ⟨rfl, rfl, (by show 400 + 128 * s18.toNatClampNeg ≤ 600000; omega), (by show 9000 + 1371 * s18.toNatClampNeg ≤ 7302250; omega)⟩ dL_law_365 (fun v373 => ?_)
            refine dn_icmp_eq (pc := 368) 2426 dL_law_368 rfl (fun _ => ?_) (fun _ => ?_)
            · refine dn_widen (cells2 := 400 + 128 * s18.toNatClampNeg + 128) (slots2 := 9000 + 1371 * s18.toNatClampNeg + 1371) (by show 400 + 128 * s18.toNatClampNeg ≤ 400 + 128 * s18.toNatClampNeg + 128; omega) (by show 9000 + 1371 * s18.toNatClampNeg ≤ 9000 + 1371 * s18.toNatClampNeg + 1371; omega) ?_
              exact dn_lv [0, 1, 2, 3] rfl (hj2426 hle18)
            · refine dn_iconst (pc := 371) (v := 0) dL_law_371 rfl ?_
              refine dn_leaf ?_
              refine dn_widen (cells2 := 600000) (slots2 := 7302250) (by show 400 + 128 * s18.toNatClampNeg ≤ 600000; omega) (by show 9000 + 1371 * s18.toNatClampNeg ≤ 7302250; omega) ?_
              exact hR18 false _ _ _ rfl dL_law_372
          · refine dn_tcase (pc := 33) 3 373 dL_law_33 (by decide) (by decide) rfl rfl (fun _ => ?_) (fun n33_3 => ?_)
            · refine dn_aload_n (pc := 373) v1 1 dL_law_373 rfl ?_
              refine dn_aloadX_n (pc := 374) 0 dL_law_374 rfl ?_
              refine dn_iload_n (pc := 375) 3 dL_law_375 rfl ?_
              refine dn_iconst (pc := 376) (v := 1) dL_law_376 rfl ?_
              refine dn_iadd (pc := 377) dL_law_377 ?_
              refine dn_sald (pc := 378) dL_law_378 (fun v356 => ?_)
              refine dn_aloadX_n (pc := 379) 0 dL_law_379 rfl ?_
              refine dn_iload_n (pc := 380) 3 dL_law_380 rfl ?_
              refine dn_iconst (pc := 381) (v := 2) dL_law_381 rfl ?_
              refine dn_iadd (pc := 382) dL_law_382 ?_
              refine dn_sald (pc := 383) dL_law_383 (fun v357 => ?_)
              refine dn_aloadX_n (pc := 384) 0 dL_law_384 rfl ?_
              refine dn_iload_n (pc := 385) 3 dL_law_385 rfl ?_
              refine dn_iconst (pc := 386) (v := 3) dL_law_386 rfl ?_
              refine dn_iadd (pc := 387) dL_law_387 ?_
              refine dn_sald (pc := 388) dL_law_388 (fun v358 => ?_)
              refine dn_callV0I (pc := 389) [.int v356, .int v357, .int v358] v1 kRL_28 (mX12_thing w x b v1 v356 v357 v358) rfl rfl (Nat.le_of_ble_eq_true rfl) ⟨(Nat.le_of_ble_eq_true rfl), (Nat.le_of_ble_eq_true rfl)⟩ ⟨rfl, rfl, (by show 400 + 128 * s18.toNatClampNeg ≤ 600000; omega), (by show 9000 + 1371 * s18.toNatClampNeg ≤ 7302250; omega)⟩ dL_law_389 (fun v359 => ?_)
              refine dn_aload_n (pc := 392) v3 2 dL_law_392 rfl ?_
              refine dn_aloadX_n (pc := 393) 0 dL_law_393 rfl ?_
              refine dn_iload_n (pc := 394) 3 dL_law_394 rfl ?_
              refine dn_iconst (pc := 395) (v := 1) dL_law_395 rfl ?_
              refine dn_iadd (pc := 396) dL_law_396 ?_
              refine dn_sald (pc := 397) dL_law_397 (fun v360 => ?_)
              refine dn_aloadX_n (pc := 398) 0 dL_law_398 rfl ?_
              refine dn_iload_n (pc := 399) 3 dL_law_399 rfl ?_
              refine dn_iconst (pc := 400) (v := 2) dL_law_400 rfl ?_
              refine dn_iadd (pc := 401) dL_law_401 ?_
              refine dn_sald (pc := 402) dL_law_402 (fun v361 => ?_)
              refine dn_aloadX_n (pc := 403) 0 dL_law_403 rfl ?_
              refine dn_iload_n (pc := 404) 3 dL_law_404 rfl ?_
              refine dn_iconst (pc := 405) (v := 3) dL_law_405 rfl ?_
              refine dn_iadd (pc := 406) dL_law_406 ?_
              refine dn_sald (pc := 407) dL_law_407 (fun v362 => ?_)
              refine dn_callV0I (pc := 408) [.int v360, .int v361, .int v362] v3 kRL_32 (mX13_thing w x b v3 v360 v361 v362) rfl rfl (Nat.le_of_ble_eq_true rfl) ⟨(Nat.le_of_ble_eq_true rfl), (Nat.le_of_ble_eq_true rfl)⟩ ⟨rfl, rfl, (by show 400 + 128 * s18.toNatClampNeg ≤ 600000; omega), (by show 9000 + 1371 * s18.toNatClampNeg ≤ 7302250; omega)⟩ dL_law_408 (fun v363 => ?_)
              refine dn_icmp_eq (pc := 411) 2426 dL_law_411 rfl (fun _ => ?_) (fun _ => ?_)
              · refine dn_widen (cells2 := 400 + 128 * s18.toNatClampNeg + 128) (slots2 := 9000 + 1371 * s18.toNatClampNeg + 1371) (by show 400 + 128 * s18.toNatClampNeg ≤ 400 + 128 * s18.toNatClampNeg + 128; omega) (by show 9000 + 1371 * s18.toNatClampNeg ≤ 9000 + 1371 * s18.toNatClampNeg + 1371; omega) ?_
                exact dn_lv [0, 1, 2, 3] rfl (hj2426 hle18)
              · refine dn_iconst (pc := 414) (v := 0) dL_law_414 rfl ?_
                refine dn_leaf ?_
                refine dn_widen (cells2 := 600000) (slots2 := 7302250) (by show 400 + 128 * s18.toNatClampNeg ≤ 600000; omega) (by show 9000 + 1371 * s18.toNatClampNeg ≤ 7302250; omega) ?_
                exact hR18 false _ _ _ rfl dL_law_415
            · refine dn_tcase (pc := 33) 4 416 dL_law_33 (by decide) (by decide) rfl rfl (fun _ => ?_) (fun n33_4 => ?_)
              · refine dn_aload_n (pc := 416) v1 1 dL_law_416 rfl ?_
                refine dn_aloadX_n (pc := 417) 0 dL_law_417 rfl ?_
                refine dn_iload_n (pc := 418) 3 dL_law_418 rfl ?_
                refine dn_iconst (pc := 419) (v := 1) dL_law_419 rfl ?_
                refine dn_iadd (pc := 420) dL_law_420 ?_
                refine dn_sald (pc := 421) dL_law_421 (fun v346 => ?_)
                refine dn_aloadX_n (pc := 422) 0 dL_law_422 rfl ?_
                refine dn_iload_n (pc := 423) 3 dL_law_423 rfl ?_
                refine dn_iconst (pc := 424) (v := 2) dL_law_424 rfl ?_
                refine dn_iadd (pc := 425) dL_law_425 ?_
                refine dn_sald (pc := 426) dL_law_426 (fun v347 => ?_)
                refine dn_aloadX_n (pc := 427) 0 dL_law_427 rfl ?_
                refine dn_iload_n (pc := 428) 3 dL_law_428 rfl ?_
                refine dn_iconst (pc := 429) (v := 3) dL_law_429 rfl ?_
                refine dn_iadd (pc := 430) dL_law_430 ?_
                refine dn_sald (pc := 431) dL_law_431 (fun v348 => ?_)
                refine dn_aloadX_n (pc := 432) 0 dL_law_432 rfl ?_
                refine dn_iload_n (pc := 433) 3 dL_law_433 rfl ?_
                refine dn_iconst (pc := 434) (v := 4) dL_law_434 rfl ?_
                refine dn_iadd (pc := 435) dL_law_435 ?_
                refine dn_sald (pc := 436) dL_law_436 (fun v349 => ?_)
                refine dn_callV0I (pc := 437) [.int v346, .int v347, .int v348, .int v349] v1 kRL_33 (mX12_share w x b v1 v346 v347 v348 v349) rfl rfl (Nat.le_of_ble_eq_true rfl) ⟨(Nat.le_of_ble_eq_true rfl), (Nat.le_of_ble_eq_true rfl)⟩ ⟨rfl, rfl, (by show 400 + 128 * s18.toNatClampNeg ≤ 600000; omega), (by show 9000 + 1371 * s18.toNatClampNeg ≤ 7302250; omega)⟩ dL_law_437 (fun v350 => ?_)
                refine dn_aload_n (pc := 440) v3 2 dL_law_440 rfl ?_
                refine dn_aloadX_n (pc := 441) 0 dL_law_441 rfl ?_
                refine dn_iload_n (pc := 442) 3 dL_law_442 rfl ?_
                refine dn_iconst (pc := 443) (v := 1) dL_law_443 rfl ?_
                refine dn_iadd (pc := 444) dL_law_444 ?_
                refine dn_sald (pc := 445) dL_law_445 (fun v351 => ?_)
                refine dn_aloadX_n (pc := 446) 0 dL_law_446 rfl ?_
                refine dn_iload_n (pc := 447) 3 dL_law_447 rfl ?_
                refine dn_iconst (pc := 448) (v := 2) dL_law_448 rfl ?_
                refine dn_iadd (pc := 449) dL_law_449 ?_
                refine dn_sald (pc := 450) dL_law_450 (fun v352 => ?_)
                refine dn_aloadX_n (pc := 451) 0 dL_law_451 rfl ?_
                refine dn_iload_n (pc := 452) 3 dL_law_452 rfl ?_
                refine dn_iconst (pc := 453) (v := 3) dL_law_453 rfl ?_
                refine dn_iadd (pc := 454) dL_law_454 ?_
                refine dn_sald (pc := 455) dL_law_455 (fun v353 => ?_)
                refine dn_aloadX_n (pc := 456) 0 dL_law_456 rfl ?_
                refine dn_iload_n (pc := 457) 3 dL_law_457 rfl ?_
                refine dn_iconst (pc := 458) (v := 4) dL_law_458 rfl ?_
                refine dn_iadd (pc := 459) dL_law_459 ?_
                refine dn_sald (pc := 460) dL_law_460 (fun v354 => ?_)
                refine dn_callV0I (pc := 461) [.int v351, .int v352, .int v353, .int v354] v3 kRL_36 (mX13_share w x b v3 v351 v352 v353 v354) rfl rfl (Nat.le_of_ble_eq_true rfl) ⟨(Nat.le_of_ble_eq_true rfl), (Nat.le_of_ble_eq_true rfl)⟩ ⟨rfl, rfl, (by show 400 + 128 * s18.toNatClampNeg ≤ 600000; omega), (by show 9000 + 1371 * s18.toNatClampNeg ≤ 7302250; omega)⟩ dL_law_461 (fun v355 => ?_)
                refine dn_icmp_eq (pc := 464) 2426 dL_law_464 rfl (fun _ => ?_) (fun _ => ?_)
                · refine dn_widen (cells2 := 400 + 128 * s18.toNatClampNeg + 128) (slots2 := 9000 + 1371 * s18.toNatClampNeg + 1371) (by show 400 + 128 * s18.toNatClampNeg ≤ 400 + 128 * s18.toNatClampNeg + 128; omega) (by show 9000 + 1371 * s18.toNatClampNeg ≤ 9000 + 1371 * s18.toNatClampNeg + 1371; omega) ?_
                  exact dn_lv [0, 1, 2, 3] rfl (hj2426 hle18)
                · refine dn_iconst (pc := 467) (v := 0) dL_law_467 rfl ?_
                  refine dn_leaf ?_
                  refine dn_widen (cells2 := 600000) (slots2 := 7302250) (by show 400 + 128 * s18.toNatClampNeg ≤ 600000; omega) (by show 9000 + 1371 * s18.toNatClampNeg ≤ 7302250; omega) ?_
                  exact hR18 false _ _ _ rfl dL_law_468
              · refine dn_tcase (pc := 33) 5 469 dL_law_33 (by decide) (by decide) rfl rfl (fun _ => ?_) (fun n33_5 => ?_)
                · refine dn_aload_n (pc := 469) v1 1 dL_law_469 rfl ?_
                  refine dn_aloadX_n (pc := 470) 0 dL_law_470 rfl ?_
                  refine dn_iload_n (pc := 471) 3 dL_law_471 rfl ?_
                  refine dn_iconst (pc := 472) (v := 1) dL_law_472 rfl ?_
                  refine dn_iadd (pc := 473) dL_law_473 ?_
                  refine dn_sald (pc := 474) dL_law_474 (fun v336 => ?_)
                  refine dn_aloadX_n (pc := 475) 0 dL_law_475 rfl ?_
                  refine dn_iload_n (pc := 476) 3 dL_law_476 rfl ?_
                  refine dn_iconst (pc := 477) (v := 2) dL_law_477 rfl ?_
                  refine dn_iadd (pc := 478) dL_law_478 ?_
                  refine dn_sald (pc := 479) dL_law_479 (fun v337 => ?_)
                  refine dn_aloadX_n (pc := 480) 0 dL_law_480 rfl ?_
                  refine dn_iload_n (pc := 481) 3 dL_law_481 rfl ?_
                  refine dn_iconst (pc := 482) (v := 3) dL_law_482 rfl ?_
                  refine dn_iadd (pc := 483) dL_law_483 ?_
                  refine dn_sald (pc := 484) dL_law_484 (fun v338 => ?_)
                  refine dn_aloadX_n (pc := 485) 0 dL_law_485 rfl ?_
                  refine dn_iload_n (pc := 486) 3 dL_law_486 rfl ?_
                  refine dn_iconst (pc := 487) (v := 4) dL_law_487 rfl ?_
                  refine dn_iadd (pc := 488) dL_law_488 ?_
                  refine dn_sald (pc := 489) dL_law_489 (fun v339 => ?_)
                  refine dn_callV0I (pc := 490) [.int v336, .int v337, .int v338, .int v339] v1 kRL_37 (mX12_swap w x b v1 v336 v337 v338 v339) rfl rfl (Nat.le_of_ble_eq_true rfl) ⟨(Nat.le_of_ble_eq_true rfl), (Nat.le_of_ble_eq_true rfl)⟩ ⟨rfl, rfl, (by show 400 + 128 * s18.toNatClampNeg ≤ 600000; omega), (by show 9000 + 1371 * s18.toNatClampNeg ≤ 7302250; omega)⟩ dL_law_490 (fun v340 => ?_)
                  refine dn_aload_n (pc := 493) v3 2 dL_law_493 rfl ?_
                  refine dn_aloadX_n (pc := 494) 0 dL_law_494 rfl ?_
                  refine dn_iload_n (pc := 495) 3 dL_law_495 rfl ?_
                  refine dn_iconst (pc := 496) (v := 1) dL_law_496 rfl ?_
                  refine dn_iadd (pc := 497) dL_law_497 ?_
                  refine dn_sald (pc := 498) dL_law_498 (fun v341 => ?_)
                  refine dn_aloadX_n (pc := 499) 0 dL_law_499 rfl ?_
                  refine dn_iload_n (pc := 500) 3 dL_law_500 rfl ?_
                  refine dn_iconst (pc := 501) (v := 2) dL_law_501 rfl ?_
                  refine dn_iadd (pc := 502) dL_law_502 ?_
                  refine dn_sald (pc := 503) dL_law_503 (fun v342 => ?_)
                  refine dn_aloadX_n (pc := 504) 0 dL_law_504 rfl ?_
                  refine dn_iload_n (pc := 505) 3 dL_law_505 rfl ?_
                  refine dn_iconst (pc := 506) (v := 3) dL_law_506 rfl ?_
                  refine dn_iadd (pc := 507) dL_law_507 ?_
                  refine dn_sald (pc := 508) dL_law_508 (fun v343 => ?_)
                  refine dn_aloadX_n (pc := 509) 0 dL_law_509 rfl ?_
                  refine dn_iload_n (pc := 510) 3 dL_law_510 rfl ?_
                  refine dn_iconst (pc := 511) (v := 4) dL_law_511 rfl ?_
                  refine dn_iadd (pc := 512) dL_law_512 ?_
                  refine dn_sald (pc := 513) dL_law_513 (fun v344 => ?_)
                  refine dn_callV0I (pc := 514) [.int v341, .int v342, .int v343, .int v344] v3 kRL_40 (mX13_swap w x b v3 v341 v342 v343 v344) rfl rfl (Nat.le_of_ble_eq_true rfl) ⟨(Nat.le_of_ble_eq_true rfl), (Nat.le_of_ble_eq_true rfl)⟩ ⟨rfl, rfl, (by show 400 + 128 * s18.toNatClampNeg ≤ 600000; omega), (by show 9000 + 1371 * s18.toNatClampNeg ≤ 7302250; omega)⟩ dL_law_514 (fun v345 => ?_)
                  refine dn_icmp_eq (pc := 517) 2426 dL_law_517 rfl (fun _ => ?_) (fun _ => ?_)
                  · refine dn_widen (cells2 := 400 + 128 * s18.toNatClampNeg + 128) (slots2 := 9000 + 1371 * s18.toNatClampNeg + 1371) (by show 400 + 128 * s18.toNatClampNeg ≤ 400 + 128 * s18.toNatClampNeg + 128; omega) (by show 9000 + 1371 * s18.toNatClampNeg ≤ 9000 + 1371 * s18.toNatClampNeg + 1371; omega) ?_
                    exact dn_lv [0, 1, 2, 3] rfl (hj2426 hle18)
                  · refine dn_iconst (pc := 520) (v := 0) dL_law_520 rfl ?_
                    refine dn_leaf ?_
                    refine dn_widen (cells2 := 600000) (slots2 := 7302250) (by show 400 + 128 * s18.toNatClampNeg ≤ 600000; omega) (by show 9000 + 1371 * s18.toNatClampNeg ≤ 7302250; omega) ?_
                    exact hR18 false _ _ _ rfl dL_law_521
                · refine dn_tcase (pc := 33) 6 522 dL_law_33 (by decide) (by decide) rfl rfl (fun _ => ?_) (fun n33_6 => ?_)
                  · refine dn_aload_n (pc := 522) v1 1 dL_law_522 rfl ?_
                    refine dn_aloadX_n (pc := 523) 0 dL_law_523 rfl ?_
                    refine dn_iload_n (pc := 524) 3 dL_law_524 rfl ?_
                    refine dn_iconst (pc := 525) (v := 1) dL_law_525 rfl ?_
                    refine dn_iadd (pc := 526) dL_law_526 ?_
                    refine dn_sald (pc := 527) dL_law_527 (fun v330 => ?_)
                    refine dn_aloadX_n (pc := 528) 0 dL_law_528 rfl ?_
                    refine dn_iload_n (pc := 529) 3 dL_law_529 rfl ?_
                    refine dn_iconst (pc := 530) (v := 2) dL_law_530 rfl ?_
                    refine dn_iadd (pc := 531) dL_law_531 ?_
                    refine dn_sald (pc := 532) dL_law_532 (fun v331 => ?_)
                    refine dn_callV0I (pc := 533) [.int v330, .int v331] v1 kRL_41 (mX12_holds w x b v1 v330 v331) rfl rfl (Nat.le_of_ble_eq_true rfl) ⟨(Nat.le_of_ble_eq_true rfl), (Nat.le_of_ble_eq_true rfl)⟩ ⟨rfl, rfl, (by show 400 + 128 * s18.toNatClampNeg ≤ 600000; omega), (by show 9000 + 1371 * s18.toNatClampNeg ≤ 7302250; omega)⟩ dL_law_533 (fun v332 => ?_)
                    refine dn_aload_n (pc := 536) v3 2 dL_law_536 rfl ?_
                    refine dn_aloadX_n (pc := 537) 0 dL_law_537 rfl ?_
                    refine dn_iload_n (pc := 538) 3 dL_law_538 rfl ?_
                    refine dn_iconst (pc := 539) (v := 1) dL_law_539 rfl ?_
                    refine dn_iadd (pc := 540) dL_law_540 ?_
                    refine dn_sald (pc := 541) dL_law_541 (fun v333 => ?_)
                    refine dn_aloadX_n (pc := 542) 0 dL_law_542 rfl ?_
                    refine dn_iload_n (pc := 543) 3 dL_law_543 rfl ?_
                    refine dn_iconst (pc := 544) (v := 2) dL_law_544 rfl ?_
                    refine dn_iadd (pc := 545) dL_law_545 ?_
                    refine dn_sald (pc := 546) dL_law_546 (fun v334 => ?_)
                    refine dn_callV0I (pc := 547) [.int v333, .int v334] v3 kRL_44 (mX13_holds w x b v3 v333 v334) rfl rfl (Nat.le_of_ble_eq_true rfl) ⟨(Nat.le_of_ble_eq_true rfl), (Nat.le_of_ble_eq_true rfl)⟩ ⟨rfl, rfl, (by show 400 + 128 * s18.toNatClampNeg ≤ 600000; omega), (by show 9000 + 1371 * s18.toNatClampNeg ≤ 7302250; omega)⟩ dL_law_547 (fun v335 => ?_)
                    refine dn_icmp_eq (pc := 550) 2426 dL_law_550 rfl (fun _ => ?_) (fun _ => ?_)
                    · refine dn_widen (cells2 := 400 + 128 * s18.toNatClampNeg + 128) (slots2 := 9000 + 1371 * s18.toNatClampNeg + 1371) (by show 400 + 128 * s18.toNatClampNeg ≤ 400 + 128 * s18.toNatClampNeg + 128; omega) (by show 9000 + 1371 * s18.toNatClampNeg ≤ 9000 + 1371 * s18.toNatClampNeg + 1371; omega) ?_
                      exact dn_lv [0, 1, 2, 3] rfl (hj2426 hle18)
                    · refine dn_iconst (pc := 553) (v := 0) dL_law_553 rfl ?_
                      refine dn_leaf ?_
                      refine dn_widen (cells2 := 600000) (slots2 := 7302250) (by show 400 + 128 * s18.toNatClampNeg ≤ 600000; omega) (by show 9000 + 1371 * s18.toNatClampNeg ≤ 7302250; omega) ?_
                      exact hR18 false _ _ _ rfl dL_law_554
                  · refine dn_tcase (pc := 33) 7 555 dL_law_33 (by decide) (by decide) rfl rfl (fun _ => ?_) (fun n33_7 => ?_)
                    · refine dn_aload_n (pc := 555) v1 1 dL_law_555 rfl ?_
                      refine dn_aloadX_n (pc := 556) 0 dL_law_556 rfl ?_
                      refine dn_iload_n (pc := 557) 3 dL_law_557 rfl ?_
                      refine dn_iconst (pc := 558) (v := 1) dL_law_558 rfl ?_
                      refine dn_iadd (pc := 559) dL_law_559 ?_
                      refine dn_sald (pc := 560) dL_law_560 (fun v320 => ?_)
                      refine dn_aloadX_n (pc := 561) 0 dL_law_561 rfl ?_
                      refine dn_iload_n (pc := 562) 3 dL_law_562 rfl ?_
                      refine dn_iconst (pc := 563) (v := 2) dL_law_563 rfl ?_
                      refine dn_iadd (pc := 564) dL_law_564 ?_
                      refine dn_sald (pc := 565) dL_law_565 (fun v321 => ?_)
                      refine dn_aloadX_n (pc := 566) 0 dL_law_566 rfl ?_
                      refine dn_iload_n (pc := 567) 3 dL_law_567 rfl ?_
                      refine dn_iconst (pc := 568) (v := 3) dL_law_568 rfl ?_
                      refine dn_iadd (pc := 569) dL_law_569 ?_
                      refine dn_sald (pc := 570) dL_law_570 (fun v322 => ?_)
                      refine dn_aloadX_n (pc := 571) 0 dL_law_571 rfl ?_
                      refine dn_iload_n (pc := 572) 3 dL_law_572 rfl ?_
                      refine dn_iconst (pc := 573) (v := 4) dL_law_573 rfl ?_
                      refine dn_iadd (pc := 574) dL_law_574 ?_
                      refine dn_sald (pc := 575) dL_law_575 (fun v323 => ?_)
                      refine dn_callV0I (pc := 576) [.int v320, .int v321, .int v322, .int v323] v1 kRL_45 (mX12_same w x b v1 v320 v321 v322 v323) rfl rfl (Nat.le_of_ble_eq_true rfl) ⟨(Nat.le_of_ble_eq_true rfl), (Nat.le_of_ble_eq_true rfl)⟩ ⟨rfl, rfl, (by show 400 + 128 * s18.toNatClampNeg ≤ 600000; omega), (by show 9000 + 1371 * s18.toNatClampNeg ≤ 7302250; omega)⟩ dL_law_576 (fun v324 => ?_)
                      refine dn_aload_n (pc := 579) v3 2 dL_law_579 rfl ?_
                      refine dn_aloadX_n (pc := 580) 0 dL_law_580 rfl ?_
                      refine dn_iload_n (pc := 581) 3 dL_law_581 rfl ?_
                      refine dn_iconst (pc := 582) (v := 1) dL_law_582 rfl ?_
                      refine dn_iadd (pc := 583) dL_law_583 ?_
                      refine dn_sald (pc := 584) dL_law_584 (fun v325 => ?_)
                      refine dn_aloadX_n (pc := 585) 0 dL_law_585 rfl ?_
                      refine dn_iload_n (pc := 586) 3 dL_law_586 rfl ?_
                      refine dn_iconst (pc := 587) (v := 2) dL_law_587 rfl ?_
                      refine dn_iadd (pc := 588) dL_law_588 ?_
                      refine dn_sald (pc := 589) dL_law_589 (fun v326 => ?_)
                      refine dn_aloadX_n (pc := 590) 0 dL_law_590 rfl ?_
                      refine dn_iload_n (pc := 591) 3 dL_law_591 rfl ?_
                      refine dn_iconst (pc := 592) (v := 3) dL_law_592 rfl ?_
                      refine dn_iadd (pc := 593) dL_law_593 ?_
                      refine dn_sald (pc := 594) dL_law_594 (fun v327 => ?_)
                      refine dn_aloadX_n (pc := 595) 0 dL_law_595 rfl ?_
                      refine dn_iload_n (pc := 596) 3 dL_law_596 rfl ?_
                      refine dn_iconst (pc := 597) (v := 4) dL_law_597 rfl ?_
                      refine dn_iadd (pc := 598) dL_law_598 ?_
                      refine dn_sald (pc := 599) dL_law_599 (fun v328 => ?_)
                      refine dn_callV0I (pc := 600) [.int v325, .int v326, .int v327, .int v328] v3 kRL_48 (mX13_same w x b v3 v325 v326 v327 v328) rfl rfl (Nat.le_of_ble_eq_true rfl) ⟨(Nat.le_of_ble_eq_true rfl), (Nat.le_of_ble_eq_true rfl)⟩ ⟨rfl, rfl, (by show 400 + 128 * s18.toNatClampNeg ≤ 600000; omega), (by show 9000 + 1371 * s18.toNatClampNeg ≤ 7302250; omega)⟩ dL_law_600 (fun v329 => ?_)
                      refine dn_icmp_eq (pc := 603) 2426 dL_law_603 rfl (fun _ => ?_) (fun _ => ?_)
                      · refine dn_widen (cells2 := 400 + 128 * s18.toNatClampNeg + 128) (slots2 := 9000 + 1371 * s18.toNatClampNeg + 1371) (by show 400 + 128 * s18.toNatClampNeg ≤ 400 + 128 * s18.toNatClampNeg + 128; omega) (by show 9000 + 1371 * s18.toNatClampNeg ≤ 9000 + 1371 * s18.toNatClampNeg + 1371; omega) ?_
                        exact dn_lv [0, 1, 2, 3] rfl (hj2426 hle18)
                      · refine dn_iconst (pc := 606) (v := 0) dL_law_606 rfl ?_
                        refine dn_leaf ?_
                        refine dn_widen (cells2 := 600000) (slots2 := 7302250) (by show 400 + 128 * s18.toNatClampNeg ≤ 600000; omega) (by show 9000 + 1371 * s18.toNatClampNeg ≤ 7302250; omega) ?_
                        exact hR18 false _ _ _ rfl dL_law_607
                    · refine dn_tcase (pc := 33) 8 608 dL_law_33 (by decide) (by decide) rfl rfl (fun _ => ?_) (fun n33_8 => ?_)
                      · refine dn_aload_n (pc := 608) v1 1 dL_law_608 rfl ?_
                        refine dn_aloadX_n (pc := 609) 0 dL_law_609 rfl ?_
                        refine dn_iload_n (pc := 610) 3 dL_law_610 rfl ?_
                        refine dn_iconst (pc := 611) (v := 1) dL_law_611 rfl ?_
                        refine dn_iadd (pc := 612) dL_law_612 ?_
                        refine dn_sald (pc := 613) dL_law_613 (fun v314 => ?_)
                        refine dn_aloadX_n (pc := 614) 0 dL_law_614 rfl ?_
                        refine dn_iload_n (pc := 615) 3 dL_law_615 rfl ?_
                        refine dn_iconst (pc := 616) (v := 2) dL_law_616 rfl ?_
                        refine dn_iadd (pc := 617) dL_law_617 ?_
                        refine dn_sald (pc := 618) dL_law_618 (fun v315 => ?_)
                        refine dn_callV0I (pc := 619) [.int v314, .int v315] v1 kRL_49 (mX12_size w x b v1 v314 v315) rfl rfl (Nat.le_of_ble_eq_true rfl) ⟨(Nat.le_of_ble_eq_true rfl), (Nat.le_of_ble_eq_true rfl)⟩ ⟨rfl, rfl, (by show 400 + 128 * s18.toNatClampNeg ≤ 600000; omega), (by show 9000 + 1371 * s18.toNatClampNeg ≤ 7302250; omega)⟩ dL_law_619 (fun v316 => ?_)
                        refine dn_aload_n (pc := 622) v3 2 dL_law_622 rfl ?_
                        refine dn_aloadX_n (pc := 623) 0 dL_law_623 rfl ?_
                        refine dn_iload_n (pc := 624) 3 dL_law_624 rfl ?_
                        refine dn_iconst (pc := 625) (v := 1) dL_law_625 rfl ?_
                        refine dn_iadd (pc := 626) dL_law_626 ?_
                        refine dn_sald (pc := 627) dL_law_627 (fun v317 => ?_)
                        refine dn_aloadX_n (pc := 628) 0 dL_law_628 rfl ?_
                        refine dn_iload_n (pc := 629) 3 dL_law_629 rfl ?_
                        refine dn_iconst (pc := 630) (v := 2) dL_law_630 rfl ?_
                        refine dn_iadd (pc := 631) dL_law_631 ?_
                        refine dn_sald (pc := 632) dL_law_632 (fun v318 => ?_)
                        refine dn_callV0I (pc := 633) [.int v317, .int v318] v3 kRL_52 (mX13_size w x b v3 v317 v318) rfl rfl (Nat.le_of_ble_eq_true rfl) ⟨(Nat.le_of_ble_eq_true rfl), (Nat.le_of_ble_eq_true rfl)⟩ ⟨rfl, rfl, (by show 400 + 128 * s18.toNatClampNeg ≤ 600000; omega), (by show 9000 + 1371 * s18.toNatClampNeg ≤ 7302250; omega)⟩ dL_law_633 (fun v319 => ?_)
                        refine dn_icmp_eq (pc := 636) 2426 dL_law_636 rfl (fun _ => ?_) (fun _ => ?_)
                        · refine dn_widen (cells2 := 400 + 128 * s18.toNatClampNeg + 128) (slots2 := 9000 + 1371 * s18.toNatClampNeg + 1371) (by show 400 + 128 * s18.toNatClampNeg ≤ 400 + 128 * s18.toNatClampNeg + 128; omega) (by show 9000 + 1371 * s18.toNatClampNeg ≤ 9000 + 1371 * s18.toNatClampNeg + 1371; omega) ?_
                          exact dn_lv [0, 1, 2, 3] rfl (hj2426 hle18)
                        · refine dn_iconst (pc := 639) (v := 0) dL_law_639 rfl ?_
                          refine dn_leaf ?_
                          refine dn_widen (cells2 := 600000) (slots2 := 7302250) (by show 400 + 128 * s18.toNatClampNeg ≤ 600000; omega) (by show 9000 + 1371 * s18.toNatClampNeg ≤ 7302250; omega) ?_
                          exact hR18 false _ _ _ rfl dL_law_640
                      · refine dn_tcase (pc := 33) 9 641 dL_law_33 (by decide) (by decide) rfl rfl (fun _ => ?_) (fun n33_9 => ?_)
                        · refine dn_aload_n (pc := 641) v1 1 dL_law_641 rfl ?_
                          refine dn_aloadX_n (pc := 642) 0 dL_law_642 rfl ?_
                          refine dn_iload_n (pc := 643) 3 dL_law_643 rfl ?_
                          refine dn_iconst (pc := 644) (v := 1) dL_law_644 rfl ?_
                          refine dn_iadd (pc := 645) dL_law_645 ?_
                          refine dn_sald (pc := 646) dL_law_646 (fun v304 => ?_)
                          refine dn_aloadX_n (pc := 647) 0 dL_law_647 rfl ?_
                          refine dn_iload_n (pc := 648) 3 dL_law_648 rfl ?_
                          refine dn_iconst (pc := 649) (v := 2) dL_law_649 rfl ?_
                          refine dn_iadd (pc := 650) dL_law_650 ?_
                          refine dn_sald (pc := 651) dL_law_651 (fun v305 => ?_)
                          refine dn_aloadX_n (pc := 652) 0 dL_law_652 rfl ?_
                          refine dn_iload_n (pc := 653) 3 dL_law_653 rfl ?_
                          refine dn_iconst (pc := 654) (v := 3) dL_law_654 rfl ?_
                          refine dn_iadd (pc := 655) dL_law_655 ?_
                          refine dn_sald (pc := 656) dL_law_656 (fun v306 => ?_)
                          refine dn_aloadX_n (pc := 657) 0 dL_law_657 rfl ?_
                          refine dn_iload_n (pc := 658) 3 dL_law_658 rfl ?_
                          refine dn_iconst (pc := 659) (v := 4) dL_law_659 rfl ?_
                          refine dn_iadd (pc := 660) dL_law_660 ?_
                          refine dn_sald (pc := 661) dL_law_661 (fun v307 => ?_)
                          refine dn_callV0I (pc := 662) [.int v304, .int v305, .int v306, .int v307] v1 kRL_53 (mX12_read w x b v1 v304 v305 v306 v307) rfl rfl (Nat.le_of_ble_eq_true rfl) ⟨(Nat.le_of_ble_eq_true rfl), (Nat.le_of_ble_eq_true rfl)⟩ ⟨rfl, rfl, (by show 400 + 128 * s18.toNatClampNeg ≤ 600000; omega), (by show 9000 + 1371 * s18.toNatClampNeg ≤ 7302250; omega)⟩ dL_law_662 (fun v308 => ?_)
                          refine dn_aload_n (pc := 665) v3 2 dL_law_665 rfl ?_
                          refine dn_aloadX_n (pc := 666) 0 dL_law_666 rfl ?_
                          refine dn_iload_n (pc := 667) 3 dL_law_667 rfl ?_
                          refine dn_iconst (pc := 668) (v := 1) dL_law_668 rfl ?_
                          refine dn_iadd (pc := 669) dL_law_669 ?_
                          refine dn_sald (pc := 670) dL_law_670 (fun v309 => ?_)
                          refine dn_aloadX_n (pc := 671) 0 dL_law_671 rfl ?_
                          refine dn_iload_n (pc := 672) 3 dL_law_672 rfl ?_
                          refine dn_iconst (pc := 673) (v := 2) dL_law_673 rfl ?_
                          refine dn_iadd (pc := 674) dL_law_674 ?_
                          refine dn_sald (pc := 675) dL_law_675 (fun v310 => ?_)
                          refine dn_aloadX_n (pc := 676) 0 dL_law_676 rfl ?_
                          refine dn_iload_n (pc := 677) 3 dL_law_677 rfl ?_
                          refine dn_iconst (pc := 678) (v := 3) dL_law_678 rfl ?_
                          refine dn_iadd (pc := 679) dL_law_679 ?_
                          refine dn_sald (pc := 680) dL_law_680 (fun v311 => ?_)
                          refine dn_aloadX_n (pc := 681) 0 dL_law_681 rfl ?_
                          refine dn_iload_n (pc := 682) 3 dL_law_682 rfl ?_
                          refine dn_iconst (pc := 683) (v := 4) dL_law_683 rfl ?_
                          refine dn_iadd (pc := 684) dL_law_684 ?_
                          refine dn_sald (pc := 685) dL_law_685 (fun v312 => ?_)
                          refine dn_callV0I (pc := 686) [.int v309, .int v310, .int v311, .int v312] v3 kRL_56 (mX13_read w x b v3 v309 v310 v311 v312) rfl rfl (Nat.le_of_ble_eq_true rfl) ⟨(Nat.le_of_ble_eq_true rfl), (Nat.le_of_ble_eq_true rfl)⟩ ⟨rfl, rfl, (by show 400 + 128 * s18.toNatClampNeg ≤ 600000; omega), (by show 9000 + 1371 * s18.toNatClampNeg ≤ 7302250; omega)⟩ dL_law_686 (fun v313 => ?_)
                          refine dn_icmp_eq (pc := 689) 2426 dL_law_689 rfl (fun _ => ?_) (fun _ => ?_)
                          · refine dn_widen (cells2 := 400 + 128 * s18.toNatClampNeg + 128) (slots2 := 9000 + 1371 * s18.toNatClampNeg + 1371) (by show 400 + 128 * s18.toNatClampNeg ≤ 400 + 128 * s18.toNatClampNeg + 128; omega) (by show 9000 + 1371 * s18.toNatClampNeg ≤ 9000 + 1371 * s18.toNatClampNeg + 1371; omega) ?_
                            exact dn_lv [0, 1, 2, 3] rfl (hj2426 hle18)
                          · refine dn_iconst (pc := 692) (v := 0) dL_law_692 rfl ?_
                            refine dn_leaf ?_
                            refine dn_widen (cells2 := 600000) (slots2 := 7302250) (by show 400 + 128 * s18.toNatClampNeg ≤ 600000; omega) (by show 9000 + 1371 * s18.toNatClampNeg ≤ 7302250; omega) ?_
                            exact hR18 false _ _ _ rfl dL_law_693
                        · refine dn_tcase (pc := 33) 10 694 dL_law_33 (by decide) (by decide) rfl rfl (fun _ => ?_) (fun n33_10 => ?_)
                          · refine dn_aload_n (pc := 694) v1 1 dL_law_694 rfl ?_
                            refine dn_aloadX_n (pc := 695) 0 dL_law_695 rfl ?_
                            refine dn_iload_n (pc := 696) 3 dL_law_696 rfl ?_
                            refine dn_iconst (pc := 697) (v := 1) dL_law_697 rfl ?_
                            refine dn_iadd (pc := 698) dL_law_698 ?_
                            refine dn_sald (pc := 699) dL_law_699 (fun v290 => ?_)
                            refine dn_aloadX_n (pc := 700) 0 dL_law_700 rfl ?_
                            refine dn_iload_n (pc := 701) 3 dL_law_701 rfl ?_
                            refine dn_iconst (pc := 702) (v := 2) dL_law_702 rfl ?_
                            refine dn_iadd (pc := 703) dL_law_703 ?_
                            refine dn_sald (pc := 704) dL_law_704 (fun v291 => ?_)
                            refine dn_aloadX_n (pc := 705) 0 dL_law_705 rfl ?_
                            refine dn_iload_n (pc := 706) 3 dL_law_706 rfl ?_
                            refine dn_iconst (pc := 707) (v := 3) dL_law_707 rfl ?_
                            refine dn_iadd (pc := 708) dL_law_708 ?_
                            refine dn_sald (pc := 709) dL_law_709 (fun v292 => ?_)
                            refine dn_aloadX_n (pc := 710) 0 dL_law_710 rfl ?_
                            refine dn_iload_n (pc := 711) 3 dL_law_711 rfl ?_
                            refine dn_iconst (pc := 712) (v := 4) dL_law_712 rfl ?_
                            refine dn_iadd (pc := 713) dL_law_713 ?_
                            refine dn_sald (pc := 714) dL_law_714 (fun v293 => ?_)
                            refine dn_aloadX_n (pc := 715) 0 dL_law_715 rfl ?_
                            refine dn_iload_n (pc := 716) 3 dL_law_716 rfl ?_
                            refine dn_iconst (pc := 717) (v := 5) dL_law_717 rfl ?_
                            refine dn_iadd (pc := 718) dL_law_718 ?_
                            refine dn_sald (pc := 719) dL_law_719 (fun v294 => ?_)
                            refine dn_i2l (pc := 720) dL_law_720 ?_
                            refine dn_bipush (pc := 721) (v := 32) dL_law_721 rfl ?_
                            refine dn_lshl (pc := 723) dL_law_723 ?_
                            refine dn_aloadX_n (pc := 724) 0 dL_law_724 rfl ?_
                            refine dn_iload_n (pc := 725) 3 dL_law_725 rfl ?_
                            refine dn_bipush (pc := 726) (v := 6) dL_law_726 rfl ?_
                            refine dn_iadd (pc := 728) dL_law_728 ?_
                            refine dn_sald (pc := 729) dL_law_729 (fun v295 => ?_)
                            refine dn_i2l (pc := 730) dL_law_730 ?_
                            refine dn_ldc2 (pc := 731) kRL_57 dL_law_731 ?_
                            refine dn_land (pc := 734) dL_law_734 ?_
                            refine dn_lor (pc := 735) dL_law_735 ?_
                            refine dn_callV0I (pc := 736) [.int v290, .int v291, .int v292, .int v293, .long ((((v294 : Int32).toInt64) <<< ((32 : Int32).toInt64 &&& 63)) ||| (((v295 : Int32).toInt64) &&& 4294967295))] v1 kRL_59 (mX12_write w x b v1 v290 v291 v292 v293 ((((v294 : Int32).toInt64) <<< ((32 : Int32).toInt64 &&& 63)) ||| (((v295 : Int32).toInt64) &&& 4294967295))) rfl rfl (Nat.le_of_ble_eq_true rfl) ⟨(Nat.le_of_ble_eq_true rfl), (Nat.le_of_ble_eq_true rfl)⟩ ⟨rfl, rfl, (by show 400 + 128 * s18.toNatClampNeg ≤ 600000; omega), (by show 9000 + 1371 * s18.toNatClampNeg ≤ 7302250; omega)⟩ dL_law_736 (fun v296 => ?_)
                            refine dn_aload_n (pc := 739) v3 2 dL_law_739 rfl ?_
                            refine dn_aloadX_n (pc := 740) 0 dL_law_740 rfl ?_
                            refine dn_iload_n (pc := 741) 3 dL_law_741 rfl ?_
                            refine dn_iconst (pc := 742) (v := 1) dL_law_742 rfl ?_
                            refine dn_iadd (pc := 743) dL_law_743 ?_
                            refine dn_sald (pc := 744) dL_law_744 (fun v297 => ?_)
                            refine dn_aloadX_n (pc := 745) 0 dL_law_745 rfl ?_
                            refine dn_iload_n (pc := 746) 3 dL_law_746 rfl ?_
                            refine dn_iconst (pc := 747) (v := 2) dL_law_747 rfl ?_
                            refine dn_iadd (pc := 748) dL_law_748 ?_
                            refine dn_sald (pc := 749) dL_law_749 (fun v298 => ?_)
                            refine dn_aloadX_n (pc := 750) 0 dL_law_750 rfl ?_
                            refine dn_iload_n (pc := 751) 3 dL_law_751 rfl ?_
                            refine dn_iconst (pc := 752) (v := 3) dL_law_752 rfl ?_
                            refine dn_iadd (pc := 753) dL_law_753 ?_
                            refine dn_sald (pc := 754) dL_law_754 (fun v299 => ?_)
                            refine dn_aloadX_n (pc := 755) 0 dL_law_755 rfl ?_
                            refine dn_iload_n (pc := 756) 3 dL_law_756 rfl ?_
                            refine dn_iconst (pc := 757) (v := 4) dL_law_757 rfl ?_
                            refine dn_iadd (pc := 758) dL_law_758 ?_
                            refine dn_sald (pc := 759) dL_law_759 (fun v300 => ?_)
                            refine dn_aloadX_n (pc := 760) 0 dL_law_760 rfl ?_
                            refine dn_iload_n (pc := 761) 3 dL_law_761 rfl ?_
                            refine dn_iconst (pc := 762) (v := 5) dL_law_762 rfl ?_
                            refine dn_iadd (pc := 763) dL_law_763 ?_
                            refine dn_sald (pc := 764) dL_law_764 (fun v301 => ?_)
                            refine dn_i2l (pc := 765) dL_law_765 ?_
                            refine dn_bipush (pc := 766) (v := 32) dL_law_766 rfl ?_
                            refine dn_lshl (pc := 768) dL_law_768 ?_
                            refine dn_aloadX_n (pc := 769) 0 dL_law_769 rfl ?_
                            refine dn_iload_n (pc := 770) 3 dL_law_770 rfl ?_
                            refine dn_bipush (pc := 771) (v := 6) dL_law_771 rfl ?_
                            refine dn_iadd (pc := 773) dL_law_773 ?_
                            refine dn_sald (pc := 774) dL_law_774 (fun v302 => ?_)
                            refine dn_i2l (pc := 775) dL_law_775 ?_
                            refine dn_ldc2 (pc := 776) kRL_57 dL_law_776 ?_
                            refine dn_land (pc := 779) dL_law_779 ?_
                            refine dn_lor (pc := 780) dL_law_780 ?_
                            refine dn_callV0I (pc := 781) [.int v297, .int v298, .int v299, .int v300, .long ((((v301 : Int32).toInt64) <<< ((32 : Int32).toInt64 &&& 63)) ||| (((v302 : Int32).toInt64) &&& 4294967295))] v3 kRL_63 (mX13_write w x b v3 v297 v298 v299 v300 ((((v301 : Int32).toInt64) <<< ((32 : Int32).toInt64 &&& 63)) ||| (((v302 : Int32).toInt64) &&& 4294967295))) rfl rfl (Nat.le_of_ble_eq_true rfl) ⟨(Nat.le_of_ble_eq_true rfl), (Nat.le_of_ble_eq_true rfl)⟩ ⟨rfl, rfl, (by show 400 + 128 * s18.toNatClampNeg ≤ 600000; omega), (by show 9000 + 1371 * s18.toNatClampNeg ≤ 7302250; omega)⟩ dL_law_781 (fun v303 => ?_)
                            refine dn_icmp_eq (pc := 784) 2426 dL_law_784 rfl (fun _ => ?_) (fun _ => ?_)
                            · refine dn_widen (cells2 := 400 + 128 * s18.toNatClampNeg + 128) (slots2 := 9000 + 1371 * s18.toNatClampNeg + 1371) (by show 400 + 128 * s18.toNatClampNeg ≤ 400 + 128 * s18.toNatClampNeg + 128; omega) (by show 9000 + 1371 * s18.toNatClampNeg ≤ 9000 + 1371 * s18.toNatClampNeg + 1371; omega) ?_
                              exact dn_lv [0, 1, 2, 3] rfl (hj2426 hle18)
                            · refine dn_iconst (pc := 787) (v := 0) dL_law_787 rfl ?_
                              refine dn_leaf ?_
                              refine dn_widen (cells2 := 600000) (slots2 := 7302250) (by show 400 + 128 * s18.toNatClampNeg ≤ 600000; omega) (by show 9000 + 1371 * s18.toNatClampNeg ≤ 7302250; omega) ?_
                              exact hR18 false _ _ _ rfl dL_law_788
                          · refine dn_tcase (pc := 33) 11 789 dL_law_33 (by decide) (by decide) rfl rfl (fun _ => ?_) (fun n33_11 => ?_)
                            · refine dn_aload_n (pc := 789) v1 1 dL_law_789 rfl ?_
                              refine dn_aloadX_n (pc := 790) 0 dL_law_790 rfl ?_
                              refine dn_iload_n (pc := 791) 3 dL_law_791 rfl ?_
                              refine dn_iconst (pc := 792) (v := 1) dL_law_792 rfl ?_
                              refine dn_iadd (pc := 793) dL_law_793 ?_
                              refine dn_sald (pc := 794) dL_law_794 (fun v276 => ?_)
                              refine dn_aloadX_n (pc := 795) 0 dL_law_795 rfl ?_
                              refine dn_iload_n (pc := 796) 3 dL_law_796 rfl ?_
                              refine dn_iconst (pc := 797) (v := 2) dL_law_797 rfl ?_
                              refine dn_iadd (pc := 798) dL_law_798 ?_
                              refine dn_sald (pc := 799) dL_law_799 (fun v277 => ?_)
                              refine dn_aloadX_n (pc := 800) 0 dL_law_800 rfl ?_
                              refine dn_iload_n (pc := 801) 3 dL_law_801 rfl ?_
                              refine dn_iconst (pc := 802) (v := 3) dL_law_802 rfl ?_
                              refine dn_iadd (pc := 803) dL_law_803 ?_
                              refine dn_sald (pc := 804) dL_law_804 (fun v278 => ?_)
                              refine dn_aloadX_n (pc := 805) 0 dL_law_805 rfl ?_
                              refine dn_iload_n (pc := 806) 3 dL_law_806 rfl ?_
                              refine dn_iconst (pc := 807) (v := 4) dL_law_807 rfl ?_
                              refine dn_iadd (pc := 808) dL_law_808 ?_
                              refine dn_sald (pc := 809) dL_law_809 (fun v279 => ?_)
                              refine dn_aloadX_n (pc := 810) 0 dL_law_810 rfl ?_
                              refine dn_iload_n (pc := 811) 3 dL_law_811 rfl ?_
                              refine dn_iconst (pc := 812) (v := 5) dL_law_812 rfl ?_
                              refine dn_iadd (pc := 813) dL_law_813 ?_
                              refine dn_sald (pc := 814) dL_law_814 (fun v280 => ?_)
                              refine dn_i2l (pc := 815) dL_law_815 ?_
                              refine dn_bipush (pc := 816) (v := 32) dL_law_816 rfl ?_
                              refine dn_lshl (pc := 818) dL_law_818 ?_
                              refine dn_aloadX_n (pc := 819) 0 dL_law_819 rfl ?_
                              refine dn_iload_n (pc := 820) 3 dL_law_820 rfl ?_
                              refine dn_bipush (pc := 821) (v := 6) dL_law_821 rfl ?_
                              refine dn_iadd (pc := 823) dL_law_823 ?_
                              refine dn_sald (pc := 824) dL_law_824 (fun v281 => ?_)
                              refine dn_i2l (pc := 825) dL_law_825 ?_
                              refine dn_ldc2 (pc := 826) kRL_57 dL_law_826 ?_
                              refine dn_land (pc := 829) dL_law_829 ?_
                              refine dn_lor (pc := 830) dL_law_830 ?_
                              refine dn_callV0I (pc := 831) [.int v276, .int v277, .int v278, .int v279, .long ((((v280 : Int32).toInt64) <<< ((32 : Int32).toInt64 &&& 63)) ||| (((v281 : Int32).toInt64) &&& 4294967295))] v1 kRL_64 (mX12_put w x b v1 v276 v277 v278 v279 ((((v280 : Int32).toInt64) <<< ((32 : Int32).toInt64 &&& 63)) ||| (((v281 : Int32).toInt64) &&& 4294967295))) rfl rfl (Nat.le_of_ble_eq_true rfl) ⟨(Nat.le_of_ble_eq_true rfl), (Nat.le_of_ble_eq_true rfl)⟩ ⟨rfl, rfl, (by show 400 + 128 * s18.toNatClampNeg ≤ 600000; omega), (by show 9000 + 1371 * s18.toNatClampNeg ≤ 7302250; omega)⟩ dL_law_831 (fun v282 => ?_)
                              refine dn_aload_n (pc := 834) v3 2 dL_law_834 rfl ?_
                              refine dn_aloadX_n (pc := 835) 0 dL_law_835 rfl ?_
                              refine dn_iload_n (pc := 836) 3 dL_law_836 rfl ?_
                              refine dn_iconst (pc := 837) (v := 1) dL_law_837 rfl ?_
                              refine dn_iadd (pc := 838) dL_law_838 ?_
                              refine dn_sald (pc := 839) dL_law_839 (fun v283 => ?_)
                              refine dn_aloadX_n (pc := 840) 0 dL_law_840 rfl ?_
                              refine dn_iload_n (pc := 841) 3 dL_law_841 rfl ?_
                              refine dn_iconst (pc := 842) (v := 2) dL_law_842 rfl ?_
                              refine dn_iadd (pc := 843) dL_law_843 ?_
                              refine dn_sald (pc := 844) dL_law_844 (fun v284 => ?_)
                              refine dn_aloadX_n (pc := 845) 0 dL_law_845 rfl ?_
                              refine dn_iload_n (pc := 846) 3 dL_law_846 rfl ?_
                              refine dn_iconst (pc := 847) (v := 3) dL_law_847 rfl ?_
                              refine dn_iadd (pc := 848) dL_law_848 ?_
                              refine dn_sald (pc := 849) dL_law_849 (fun v285 => ?_)
                              refine dn_aloadX_n (pc := 850) 0 dL_law_850 rfl ?_
                              refine dn_iload_n (pc := 851) 3 dL_law_851 rfl ?_
                              refine dn_iconst (pc := 852) (v := 4) dL_law_852 rfl ?_
                              refine dn_iadd (pc := 853) dL_law_853 ?_
                              refine dn_sald (pc := 854) dL_law_854 (fun v286 => ?_)
                              refine dn_aloadX_n (pc := 855) 0 dL_law_855 rfl ?_
                              refine dn_iload_n (pc := 856) 3 dL_law_856 rfl ?_
                              refine dn_iconst (pc := 857) (v := 5) dL_law_857 rfl ?_
                              refine dn_iadd (pc := 858) dL_law_858 ?_
                              refine dn_sald (pc := 859) dL_law_859 (fun v287 => ?_)
                              refine dn_i2l (pc := 860) dL_law_860 ?_
                              refine dn_bipush (pc := 861) (v := 32) dL_law_861 rfl ?_
                              refine dn_lshl (pc := 863) dL_law_863 ?_
                              refine dn_aloadX_n (pc := 864) 0 dL_law_864 rfl ?_
                              refine dn_iload_n (pc := 865) 3 dL_law_865 rfl ?_
                              refine dn_bipush (pc := 866) (v := 6) dL_law_866 rfl ?_
                              refine dn_iadd (pc := 868) dL_law_868 ?_
                              refine dn_sald (pc := 869) dL_law_869 (fun v288 => ?_)
                              refine dn_i2l (pc := 870) dL_law_870 ?_
                              refine dn_ldc2 (pc := 871) kRL_57 dL_law_871 ?_
                              refine dn_land (pc := 874) dL_law_874 ?_
                              refine dn_lor (pc := 875) dL_law_875 ?_
                              refine dn_callV0I (pc := 876) [.int v283, .int v284, .int v285, .int v286, .long ((((v287 : Int32).toInt64) <<< ((32 : Int32).toInt64 &&& 63)) ||| (((v288 : Int32).toInt64) &&& 4294967295))] v3 kRL_67 (mX13_put w x b v3 v283 v284 v285 v286 ((((v287 : Int32).toInt64) <<< ((32 : Int32).toInt64 &&& 63)) ||| (((v288 : Int32).toInt64) &&& 4294967295))) rfl rfl (Nat.le_of_ble_eq_true rfl) ⟨(Nat.le_of_ble_eq_true rfl), (Nat.le_of_ble_eq_true rfl)⟩ ⟨rfl, rfl, (by show 400 + 128 * s18.toNatClampNeg ≤ 600000; omega), (by show 9000 + 1371 * s18.toNatClampNeg ≤ 7302250; omega)⟩ dL_law_876 (fun v289 => ?_)
                              refine dn_icmp_eq (pc := 879) 2426 dL_law_879 rfl (fun _ => ?_) (fun _ => ?_)
                              · refine dn_widen (cells2 := 400 + 128 * s18.toNatClampNeg + 128) (slots2 := 9000 + 1371 * s18.toNatClampNeg + 1371) (by show 400 + 128 * s18.toNatClampNeg ≤ 400 + 128 * s18.toNatClampNeg + 128; omega) (by show 9000 + 1371 * s18.toNatClampNeg ≤ 9000 + 1371 * s18.toNatClampNeg + 1371; omega) ?_
                                exact dn_lv [0, 1, 2, 3] rfl (hj2426 hle18)
                              · refine dn_iconst (pc := 882) (v := 0) dL_law_882 rfl ?_
                                refine dn_leaf ?_
                                refine dn_widen (cells2 := 600000) (slots2 := 7302250) (by show 400 + 128 * s18.toNatClampNeg ≤ 600000; omega) (by show 9000 + 1371 * s18.toNatClampNeg ≤ 7302250; omega) ?_
                                exact hR18 false _ _ _ rfl dL_law_883
                            · refine dn_tcase (pc := 33) 12 884 dL_law_33 (by decide) (by decide) rfl rfl (fun _ => ?_) (fun n33_12 => ?_)
                              · refine dn_aload_n (pc := 884) v1 1 dL_law_884 rfl ?_
                                refine dn_aloadX_n (pc := 885) 0 dL_law_885 rfl ?_
                                refine dn_iload_n (pc := 886) 3 dL_law_886 rfl ?_
                                refine dn_iconst (pc := 887) (v := 1) dL_law_887 rfl ?_
                                refine dn_iadd (pc := 888) dL_law_888 ?_
                                refine dn_sald (pc := 889) dL_law_889 (fun v264 => ?_)
                                refine dn_aloadX_n (pc := 890) 0 dL_law_890 rfl ?_
                                refine dn_iload_n (pc := 891) 3 dL_law_891 rfl ?_
                                refine dn_iconst (pc := 892) (v := 2) dL_law_892 rfl ?_
                                refine dn_iadd (pc := 893) dL_law_893 ?_
                                refine dn_sald (pc := 894) dL_law_894 (fun v265 => ?_)
                                refine dn_aloadX_n (pc := 895) 0 dL_law_895 rfl ?_
                                refine dn_iload_n (pc := 896) 3 dL_law_896 rfl ?_
                                refine dn_iconst (pc := 897) (v := 3) dL_law_897 rfl ?_
                                refine dn_iadd (pc := 898) dL_law_898 ?_
                                refine dn_sald (pc := 899) dL_law_899 (fun v266 => ?_)
                                refine dn_aloadX_n (pc := 900) 0 dL_law_900 rfl ?_
                                refine dn_iload_n (pc := 901) 3 dL_law_901 rfl ?_
                                refine dn_iconst (pc := 902) (v := 4) dL_law_902 rfl ?_
                                refine dn_iadd (pc := 903) dL_law_903 ?_
                                refine dn_sald (pc := 904) dL_law_904 (fun v267 => ?_)
                                refine dn_i2l (pc := 905) dL_law_905 ?_
                                refine dn_bipush (pc := 906) (v := 32) dL_law_906 rfl ?_
                                refine dn_lshl (pc := 908) dL_law_908 ?_
                                refine dn_aloadX_n (pc := 909) 0 dL_law_909 rfl ?_
                                refine dn_iload_n (pc := 910) 3 dL_law_910 rfl ?_
                                refine dn_iconst (pc := 911) (v := 5) dL_law_911 rfl ?_
                                refine dn_iadd (pc := 912) dL_law_912 ?_
                                refine dn_sald (pc := 913) dL_law_913 (fun v268 => ?_)
                                refine dn_i2l (pc := 914) dL_law_914 ?_
                                refine dn_ldc2 (pc := 915) kRL_57 dL_law_915 ?_
                                refine dn_land (pc := 918) dL_law_918 ?_
                                refine dn_lor (pc := 919) dL_law_919 ?_
                                refine dn_callV0I (pc := 920) [.int v264, .int v265, .int v266, .long ((((v267 : Int32).toInt64) <<< ((32 : Int32).toInt64 &&& 63)) ||| (((v268 : Int32).toInt64) &&& 4294967295))] v1 kRL_68 (mX12_find w x b v1 v264 v265 v266 ((((v267 : Int32).toInt64) <<< ((32 : Int32).toInt64 &&& 63)) ||| (((v268 : Int32).toInt64) &&& 4294967295))) rfl rfl (Nat.le_of_ble_eq_true rfl) ⟨(Nat.le_of_ble_eq_true rfl), (Nat.le_of_ble_eq_true rfl)⟩ ⟨rfl, rfl, (by show 400 + 128 * s18.toNatClampNeg ≤ 600000; omega), (by show 9000 + 1371 * s18.toNatClampNeg ≤ 7302250; omega)⟩ dL_law_920 (fun v269 => ?_)
                                refine dn_aload_n (pc := 923) v3 2 dL_law_923 rfl ?_
                                refine dn_aloadX_n (pc := 924) 0 dL_law_924 rfl ?_
                                refine dn_iload_n (pc := 925) 3 dL_law_925 rfl ?_
                                refine dn_iconst (pc := 926) (v := 1) dL_law_926 rfl ?_
                                refine dn_iadd (pc := 927) dL_law_927 ?_
                                refine dn_sald (pc := 928) dL_law_928 (fun v270 => ?_)
                                refine dn_aloadX_n (pc := 929) 0 dL_law_929 rfl ?_
                                refine dn_iload_n (pc := 930) 3 dL_law_930 rfl ?_
                                refine dn_iconst (pc := 931) (v := 2) dL_law_931 rfl ?_
                                refine dn_iadd (pc := 932) dL_law_932 ?_
                                refine dn_sald (pc := 933) dL_law_933 (fun v271 => ?_)
                                refine dn_aloadX_n (pc := 934) 0 dL_law_934 rfl ?_
                                refine dn_iload_n (pc := 935) 3 dL_law_935 rfl ?_
                                refine dn_iconst (pc := 936) (v := 3) dL_law_936 rfl ?_
                                refine dn_iadd (pc := 937) dL_law_937 ?_
                                refine dn_sald (pc := 938) dL_law_938 (fun v272 => ?_)
                                refine dn_aloadX_n (pc := 939) 0 dL_law_939 rfl ?_
                                refine dn_iload_n (pc := 940) 3 dL_law_940 rfl ?_
                                refine dn_iconst (pc := 941) (v := 4) dL_law_941 rfl ?_
                                refine dn_iadd (pc := 942) dL_law_942 ?_
                                refine dn_sald (pc := 943) dL_law_943 (fun v273 => ?_)
                                refine dn_i2l (pc := 944) dL_law_944 ?_
                                refine dn_bipush (pc := 945) (v := 32) dL_law_945 rfl ?_
                                refine dn_lshl (pc := 947) dL_law_947 ?_
                                refine dn_aloadX_n (pc := 948) 0 dL_law_948 rfl ?_
                                refine dn_iload_n (pc := 949) 3 dL_law_949 rfl ?_
                                refine dn_iconst (pc := 950) (v := 5) dL_law_950 rfl ?_
                                refine dn_iadd (pc := 951) dL_law_951 ?_
                                refine dn_sald (pc := 952) dL_law_952 (fun v274 => ?_)
                                refine dn_i2l (pc := 953) dL_law_953 ?_
                                refine dn_ldc2 (pc := 954) kRL_57 dL_law_954 ?_
                                refine dn_land (pc := 957) dL_law_957 ?_
                                refine dn_lor (pc := 958) dL_law_958 ?_
                                refine dn_callV0I (pc := 959) [.int v270, .int v271, .int v272, .long ((((v273 : Int32).toInt64) <<< ((32 : Int32).toInt64 &&& 63)) ||| (((v274 : Int32).toInt64) &&& 4294967295))] v3 kRL_72 (mX13_find w x b v3 v270 v271 v272 ((((v273 : Int32).toInt64) <<< ((32 : Int32).toInt64 &&& 63)) ||| (((v274 : Int32).toInt64) &&& 4294967295))) rfl rfl (Nat.le_of_ble_eq_true rfl) ⟨(Nat.le_of_ble_eq_true rfl), (Nat.le_of_ble_eq_true rfl)⟩ ⟨rfl, rfl, (by show 400 + 128 * s18.toNatClampNeg ≤ 600000; omega), (by show 9000 + 1371 * s18.toNatClampNeg ≤ 7302250; omega)⟩ dL_law_959 (fun v275 => ?_)
                                refine dn_icmp_eq (pc := 962) 2426 dL_law_962 rfl (fun _ => ?_) (fun _ => ?_)
                                · refine dn_widen (cells2 := 400 + 128 * s18.toNatClampNeg + 128) (slots2 := 9000 + 1371 * s18.toNatClampNeg + 1371) (by show 400 + 128 * s18.toNatClampNeg ≤ 400 + 128 * s18.toNatClampNeg + 128; omega) (by show 9000 + 1371 * s18.toNatClampNeg ≤ 9000 + 1371 * s18.toNatClampNeg + 1371; omega) ?_
                                  exact dn_lv [0, 1, 2, 3] rfl (hj2426 hle18)
                                · refine dn_iconst (pc := 965) (v := 0) dL_law_965 rfl ?_
                                  refine dn_leaf ?_
                                  refine dn_widen (cells2 := 600000) (slots2 := 7302250) (by show 400 + 128 * s18.toNatClampNeg ≤ 600000; omega) (by show 9000 + 1371 * s18.toNatClampNeg ≤ 7302250; omega) ?_
                                  exact hR18 false _ _ _ rfl dL_law_966
                              · refine dn_tcase (pc := 33) 13 967 dL_law_33 (by decide) (by decide) rfl rfl (fun _ => ?_) (fun n33_13 => ?_)
                                · refine dn_aload_n (pc := 967) v1 1 dL_law_967 rfl ?_
                                  refine dn_aloadX_n (pc := 968) 0 dL_law_968 rfl ?_
                                  refine dn_iload_n (pc := 969) 3 dL_law_969 rfl ?_
                                  refine dn_iconst (pc := 970) (v := 1) dL_law_970 rfl ?_
                                  refine dn_iadd (pc := 971) dL_law_971 ?_
                                  refine dn_sald (pc := 972) dL_law_972 (fun v254 => ?_)
                                  refine dn_aloadX_n (pc := 973) 0 dL_law_973 rfl ?_
                                  refine dn_iload_n (pc := 974) 3 dL_law_974 rfl ?_
                                  refine dn_iconst (pc := 975) (v := 2) dL_law_975 rfl ?_
                                  refine dn_iadd (pc := 976) dL_law_976 ?_
                                  refine dn_sald (pc := 977) dL_law_977 (fun v255 => ?_)
                                  refine dn_aloadX_n (pc := 978) 0 dL_law_978 rfl ?_
                                  refine dn_iload_n (pc := 979) 3 dL_law_979 rfl ?_
                                  refine dn_iconst (pc := 980) (v := 3) dL_law_980 rfl ?_
                                  refine dn_iadd (pc := 981) dL_law_981 ?_
                                  refine dn_sald (pc := 982) dL_law_982 (fun v256 => ?_)
                                  refine dn_aloadX_n (pc := 983) 0 dL_law_983 rfl ?_
                                  refine dn_iload_n (pc := 984) 3 dL_law_984 rfl ?_
                                  refine dn_iconst (pc := 985) (v := 4) dL_law_985 rfl ?_
                                  refine dn_iadd (pc := 986) dL_law_986 ?_
                                  refine dn_sald (pc := 987) dL_law_987 (fun v257 => ?_)
                                  refine dn_callV0I (pc := 988) [.int v254, .int v255, .int v256, .int v257] v1 kRL_73 (mX12_alike w x b v1 v254 v255 v256 v257) rfl rfl (Nat.le_of_ble_eq_true rfl) ⟨(Nat.le_of_ble_eq_true rfl), (Nat.le_of_ble_eq_true rfl)⟩ ⟨rfl, rfl, (by show 400 + 128 * s18.toNatClampNeg ≤ 600000; omega), (by show 9000 + 1371 * s18.toNatClampNeg ≤ 7302250; omega)⟩ dL_law_988 (fun v258 => ?_)
                                  refine dn_aload_n (pc := 991) v3 2 dL_law_991 rfl ?_
                                  refine dn_aloadX_n (pc := 992) 0 dL_law_992 rfl ?_
                                  refine dn_iload_n (pc := 993) 3 dL_law_993 rfl ?_
                                  refine dn_iconst (pc := 994) (v := 1) dL_law_994 rfl ?_
                                  refine dn_iadd (pc := 995) dL_law_995 ?_
                                  refine dn_sald (pc := 996) dL_law_996 (fun v259 => ?_)
                                  refine dn_aloadX_n (pc := 997) 0 dL_law_997 rfl ?_
                                  refine dn_iload_n (pc := 998) 3 dL_law_998 rfl ?_
                                  refine dn_iconst (pc := 999) (v := 2) dL_law_999 rfl ?_
                                  refine dn_iadd (pc := 1000) dL_law_1000 ?_
                                  refine dn_sald (pc := 1001) dL_law_1001 (fun v260 => ?_)
                                  refine dn_aloadX_n (pc := 1002) 0 dL_law_1002 rfl ?_
                                  refine dn_iload_n (pc := 1003) 3 dL_law_1003 rfl ?_
                                  refine dn_iconst (pc := 1004) (v := 3) dL_law_1004 rfl ?_
                                  refine dn_iadd (pc := 1005) dL_law_1005 ?_
                                  refine dn_sald (pc := 1006) dL_law_1006 (fun v261 => ?_)
                                  refine dn_aloadX_n (pc := 1007) 0 dL_law_1007 rfl ?_
                                  refine dn_iload_n (pc := 1008) 3 dL_law_1008 rfl ?_
                                  refine dn_iconst (pc := 1009) (v := 4) dL_law_1009 rfl ?_
                                  refine dn_iadd (pc := 1010) dL_law_1010 ?_
                                  refine dn_sald (pc := 1011) dL_law_1011 (fun v262 => ?_)
                                  refine dn_callV0I (pc := 1012) [.int v259, .int v260, .int v261, .int v262] v3 kRL_76 (mX13_alike w x b v3 v259 v260 v261 v262) rfl rfl (Nat.le_of_ble_eq_true rfl) ⟨(Nat.le_of_ble_eq_true rfl), (Nat.le_of_ble_eq_true rfl)⟩ ⟨rfl, rfl, (by show 400 + 128 * s18.toNatClampNeg ≤ 600000; omega), (by show 9000 + 1371 * s18.toNatClampNeg ≤ 7302250; omega)⟩ dL_law_1012 (fun v263 => ?_)
                                  refine dn_icmp_eq (pc := 1015) 2426 dL_law_1015 rfl (fun _ => ?_) (fun _ => ?_)
                                  · refine dn_widen (cells2 := 400 + 128 * s18.toNatClampNeg + 128) (slots2 := 9000 + 1371 * s18.toNatClampNeg + 1371) (by show 400 + 128 * s18.toNatClampNeg ≤ 400 + 128 * s18.toNatClampNeg + 128; omega) (by show 9000 + 1371 * s18.toNatClampNeg ≤ 9000 + 1371 * s18.toNatClampNeg + 1371; omega) ?_
                                    exact dn_lv [0, 1, 2, 3] rfl (hj2426 hle18)
                                  · refine dn_iconst (pc := 1018) (v := 0) dL_law_1018 rfl ?_
                                    refine dn_leaf ?_
                                    refine dn_widen (cells2 := 600000) (slots2 := 7302250) (by show 400 + 128 * s18.toNatClampNeg ≤ 600000; omega) (by show 9000 + 1371 * s18.toNatClampNeg ≤ 7302250; omega) ?_
                                    exact hR18 false _ _ _ rfl dL_law_1019
                                · refine dn_tcase (pc := 33) 14 1020 dL_law_33 (by decide) (by decide) rfl rfl (fun _ => ?_) (fun n33_14 => ?_)
                                  · refine dn_aload_n (pc := 1020) v1 1 dL_law_1020 rfl ?_
                                    refine dn_aloadX_n (pc := 1021) 0 dL_law_1021 rfl ?_
                                    refine dn_iload_n (pc := 1022) 3 dL_law_1022 rfl ?_
                                    refine dn_iconst (pc := 1023) (v := 1) dL_law_1023 rfl ?_
                                    refine dn_iadd (pc := 1024) dL_law_1024 ?_
                                    refine dn_sald (pc := 1025) dL_law_1025 (fun v242 => ?_)
                                    refine dn_aloadX_n (pc := 1026) 0 dL_law_1026 rfl ?_
                                    refine dn_iload_n (pc := 1027) 3 dL_law_1027 rfl ?_
                                    refine dn_iconst (pc := 1028) (v := 2) dL_law_1028 rfl ?_
                                    refine dn_iadd (pc := 1029) dL_law_1029 ?_
                                    refine dn_sald (pc := 1030) dL_law_1030 (fun v243 => ?_)
                                    refine dn_aloadX_n (pc := 1031) 0 dL_law_1031 rfl ?_
                                    refine dn_iload_n (pc := 1032) 3 dL_law_1032 rfl ?_
                                    refine dn_iconst (pc := 1033) (v := 3) dL_law_1033 rfl ?_
                                    refine dn_iadd (pc := 1034) dL_law_1034 ?_
                                    refine dn_sald (pc := 1035) dL_law_1035 (fun v244 => ?_)
                                    refine dn_aloadX_n (pc := 1036) 0 dL_law_1036 rfl ?_
                                    refine dn_iload_n (pc := 1037) 3 dL_law_1037 rfl ?_
                                    refine dn_iconst (pc := 1038) (v := 4) dL_law_1038 rfl ?_
                                    refine dn_iadd (pc := 1039) dL_law_1039 ?_
                                    refine dn_sald (pc := 1040) dL_law_1040 (fun v245 => ?_)
                                    refine dn_aloadX_n (pc := 1041) 0 dL_law_1041 rfl ?_
                                    refine dn_iload_n (pc := 1042) 3 dL_law_1042 rfl ?_
                                    refine dn_iconst (pc := 1043) (v := 5) dL_law_1043 rfl ?_
                                    refine dn_iadd (pc := 1044) dL_law_1044 ?_
                                    refine dn_sald (pc := 1045) dL_law_1045 (fun v246 => ?_)
                                    refine dn_callV0I (pc := 1046) [.int v242, .int v243, .int v244, .int v245, .int v246] v1 kRL_77 (mX12_cut w x b v1 v242 v243 v244 v245 v246) rfl rfl (Nat.le_of_ble_eq_true rfl) ⟨(Nat.le_of_ble_eq_true rfl), (Nat.le_of_ble_eq_true rfl)⟩ ⟨rfl, rfl, (by show 400 + 128 * s18.toNatClampNeg ≤ 600000; omega), (by show 9000 + 1371 * s18.toNatClampNeg ≤ 7302250; omega)⟩ dL_law_1046 (fun v247 => ?_)
                                    refine dn_aload_n (pc := 1049) v3 2 dL_law_1049 rfl ?_
                                    refine dn_aloadX_n (pc := 1050) 0 dL_law_1050 rfl ?_
                                    refine dn_iload_n (pc := 1051) 3 dL_law_1051 rfl ?_
                                    refine dn_iconst (pc := 1052) (v := 1) dL_law_1052 rfl ?_
                                    refine dn_iadd (pc := 1053) dL_law_1053 ?_
                                    refine dn_sald (pc := 1054) dL_law_1054 (fun v248 => ?_)
                                    refine dn_aloadX_n (pc := 1055) 0 dL_law_1055 rfl ?_
                                    refine dn_iload_n (pc := 1056) 3 dL_law_1056 rfl ?_
                                    refine dn_iconst (pc := 1057) (v := 2) dL_law_1057 rfl ?_
                                    refine dn_iadd (pc := 1058) dL_law_1058 ?_
                                    refine dn_sald (pc := 1059) dL_law_1059 (fun v249 => ?_)
                                    refine dn_aloadX_n (pc := 1060) 0 dL_law_1060 rfl ?_
                                    refine dn_iload_n (pc := 1061) 3 dL_law_1061 rfl ?_
                                    refine dn_iconst (pc := 1062) (v := 3) dL_law_1062 rfl ?_
                                    refine dn_iadd (pc := 1063) dL_law_1063 ?_
                                    refine dn_sald (pc := 1064) dL_law_1064 (fun v250 => ?_)
                                    refine dn_aloadX_n (pc := 1065) 0 dL_law_1065 rfl ?_
                                    refine dn_iload_n (pc := 1066) 3 dL_law_1066 rfl ?_
                                    refine dn_iconst (pc := 1067) (v := 4) dL_law_1067 rfl ?_
                                    refine dn_iadd (pc := 1068) dL_law_1068 ?_
                                    refine dn_sald (pc := 1069) dL_law_1069 (fun v251 => ?_)
                                    refine dn_aloadX_n (pc := 1070) 0 dL_law_1070 rfl ?_
                                    refine dn_iload_n (pc := 1071) 3 dL_law_1071 rfl ?_
                                    refine dn_iconst (pc := 1072) (v := 5) dL_law_1072 rfl ?_
                                    refine dn_iadd (pc := 1073) dL_law_1073 ?_
                                    refine dn_sald (pc := 1074) dL_law_1074 (fun v252 => ?_)
                                    refine dn_callV0I (pc := 1075) [.int v248, .int v249, .int v250, .int v251, .int v252] v3 kRL_81 (mX13_cut w x b v3 v248 v249 v250 v251 v252) rfl rfl (Nat.le_of_ble_eq_true rfl) ⟨(Nat.le_of_ble_eq_true rfl), (Nat.le_of_ble_eq_true rfl)⟩ ⟨rfl, rfl, (by show 400 + 128 * s18.toNatClampNeg ≤ 600000; omega), (by show 9000 + 1371 * s18.toNatClampNeg ≤ 7302250; omega)⟩ dL_law_1075 (fun v253 => ?_)
                                    refine dn_icmp_eq (pc := 1078) 2426 dL_law_1078 rfl (fun _ => ?_) (fun _ => ?_)
                                    · refine dn_widen (cells2 := 400 + 128 * s18.toNatClampNeg + 128) (slots2 := 9000 + 1371 * s18.toNatClampNeg + 1371) (by show 400 + 128 * s18.toNatClampNeg ≤ 400 + 128 * s18.toNatClampNeg + 128; omega) (by show 9000 + 1371 * s18.toNatClampNeg ≤ 9000 + 1371 * s18.toNatClampNeg + 1371; omega) ?_
                                      exact dn_lv [0, 1, 2, 3] rfl (hj2426 hle18)
                                    · refine dn_iconst (pc := 1081) (v := 0) dL_law_1081 rfl ?_
                                      refine dn_leaf ?_
                                      refine dn_widen (cells2 := 600000) (slots2 := 7302250) (by show 400 + 128 * s18.toNatClampNeg ≤ 600000; omega) (by show 9000 + 1371 * s18.toNatClampNeg ≤ 7302250; omega) ?_
                                      exact hR18 false _ _ _ rfl dL_law_1082
                                  · refine dn_tcase (pc := 33) 15 1083 dL_law_33 (by decide) (by decide) rfl rfl (fun _ => ?_) (fun n33_15 => ?_)
                                    · refine dn_aload_n (pc := 1083) v1 1 dL_law_1083 rfl ?_
                                      refine dn_aloadX_n (pc := 1084) 0 dL_law_1084 rfl ?_
                                      refine dn_iload_n (pc := 1085) 3 dL_law_1085 rfl ?_
                                      refine dn_iconst (pc := 1086) (v := 1) dL_law_1086 rfl ?_
                                      refine dn_iadd (pc := 1087) dL_law_1087 ?_
                                      refine dn_sald (pc := 1088) dL_law_1088 (fun v234 => ?_)
                                      refine dn_aloadX_n (pc := 1089) 0 dL_law_1089 rfl ?_
                                      refine dn_iload_n (pc := 1090) 3 dL_law_1090 rfl ?_
                                      refine dn_iconst (pc := 1091) (v := 2) dL_law_1091 rfl ?_
                                      refine dn_iadd (pc := 1092) dL_law_1092 ?_
                                      refine dn_sald (pc := 1093) dL_law_1093 (fun v235 => ?_)
                                      refine dn_aloadX_n (pc := 1094) 0 dL_law_1094 rfl ?_
                                      refine dn_iload_n (pc := 1095) 3 dL_law_1095 rfl ?_
                                      refine dn_iconst (pc := 1096) (v := 3) dL_law_1096 rfl ?_
                                      refine dn_iadd (pc := 1097) dL_law_1097 ?_
                                      refine dn_sald (pc := 1098) dL_law_1098 (fun v236 => ?_)
                                      refine dn_callV0I (pc := 1099) [.int v234, .int v235, .int v236] v1 kRL_82 (mX12_cast w x b v1 v234 v235 v236) rfl rfl (Nat.le_of_ble_eq_true rfl) ⟨(Nat.le_of_ble_eq_true rfl), (Nat.le_of_ble_eq_true rfl)⟩ ⟨rfl, rfl, (by show 400 + 128 * s18.toNatClampNeg ≤ 600000; omega), (by show 9000 + 1371 * s18.toNatClampNeg ≤ 7302250; omega)⟩ dL_law_1099 (fun v237 => ?_)
                                      refine dn_aload_n (pc := 1102) v3 2 dL_law_1102 rfl ?_
                                      refine dn_aloadX_n (pc := 1103) 0 dL_law_1103 rfl ?_
                                      refine dn_iload_n (pc := 1104) 3 dL_law_1104 rfl ?_
                                      refine dn_iconst (pc := 1105) (v := 1) dL_law_1105 rfl ?_
                                      refine dn_iadd (pc := 1106) dL_law_1106 ?_
                                      refine dn_sald (pc := 1107) dL_law_1107 (fun v238 => ?_)
                                      refine dn_aloadX_n (pc := 1108) 0 dL_law_1108 rfl ?_
                                      refine dn_iload_n (pc := 1109) 3 dL_law_1109 rfl ?_
                                      refine dn_iconst (pc := 1110) (v := 2) dL_law_1110 rfl ?_
                                      refine dn_iadd (pc := 1111) dL_law_1111 ?_
                                      refine dn_sald (pc := 1112) dL_law_1112 (fun v239 => ?_)
                                      refine dn_aloadX_n (pc := 1113) 0 dL_law_1113 rfl ?_
                                      refine dn_iload_n (pc := 1114) 3 dL_law_1114 rfl ?_
                                      refine dn_iconst (pc := 1115) (v := 3) dL_law_1115 rfl ?_
                                      refine dn_iadd (pc := 1116) dL_law_1116 ?_
                                      refine dn_sald (pc := 1117) dL_law_1117 (fun v240 => ?_)
                                      refine dn_callV0I (pc := 1118) [.int v238, .int v239, .int v240] v3 kRL_85 (mX13_cast w x b v3 v238 v239 v240) rfl rfl (Nat.le_of_ble_eq_true rfl) ⟨(Nat.le_of_ble_eq_true rfl), (Nat.le_of_ble_eq_true rfl)⟩ ⟨rfl, rfl, (by show 400 + 128 * s18.toNatClampNeg ≤ 600000; omega), (by show 9000 + 1371 * s18.toNatClampNeg ≤ 7302250; omega)⟩ dL_law_1118 (fun v241 => ?_)
                                      refine dn_icmp_eq (pc := 1121) 2426 dL_law_1121 rfl (fun _ => ?_) (fun _ => ?_)
                                      · refine dn_widen (cells2 := 400 + 128 * s18.toNatClampNeg + 128) (slots2 := 9000 + 1371 * s18.toNatClampNeg + 1371) (by show 400 + 128 * s18.toNatClampNeg ≤ 400 + 128 * s18.toNatClampNeg + 128; omega) (by show 9000 + 1371 * s18.toNatClampNeg ≤ 9000 + 1371 * s18.toNatClampNeg + 1371; omega) ?_
                                        exact dn_lv [0, 1, 2, 3] rfl (hj2426 hle18)
                                      · refine dn_iconst (pc := 1124) (v := 0) dL_law_1124 rfl ?_
                                        refine dn_leaf ?_
                                        refine dn_widen (cells2 := 600000) (slots2 := 7302250) (by show 400 + 128 * s18.toNatClampNeg ≤ 600000; omega) (by show 9000 + 1371 * s18.toNatClampNeg ≤ 7302250; omega) ?_
                                        exact hR18 false _ _ _ rfl dL_law_1125
                                    · refine dn_tcase (pc := 33) 16 1126 dL_law_33 (by decide) (by decide) rfl rfl (fun _ => ?_) (fun n33_16 => ?_)
                                      · refine dn_aload_n (pc := 1126) v1 1 dL_law_1126 rfl ?_
                                        refine dn_aloadX_n (pc := 1127) 0 dL_law_1127 rfl ?_
                                        refine dn_iload_n (pc := 1128) 3 dL_law_1128 rfl ?_
                                        refine dn_iconst (pc := 1129) (v := 1) dL_law_1129 rfl ?_
                                        refine dn_iadd (pc := 1130) dL_law_1130 ?_
                                        refine dn_sald (pc := 1131) dL_law_1131 (fun v224 => ?_)
                                        refine dn_aloadX_n (pc := 1132) 0 dL_law_1132 rfl ?_
                                        refine dn_iload_n (pc := 1133) 3 dL_law_1133 rfl ?_
                                        refine dn_iconst (pc := 1134) (v := 2) dL_law_1134 rfl ?_
                                        refine dn_iadd (pc := 1135) dL_law_1135 ?_
                                        refine dn_sald (pc := 1136) dL_law_1136 (fun v225 => ?_)
                                        refine dn_aloadX_n (pc := 1137) 0 dL_law_1137 rfl ?_
                                        refine dn_iload_n (pc := 1138) 3 dL_law_1138 rfl ?_
                                        refine dn_iconst (pc := 1139) (v := 3) dL_law_1139 rfl ?_
                                        refine dn_iadd (pc := 1140) dL_law_1140 ?_
                                        refine dn_sald (pc := 1141) dL_law_1141 (fun v226 => ?_)
                                        refine dn_aloadX_n (pc := 1142) 0 dL_law_1142 rfl ?_
                                        refine dn_iload_n (pc := 1143) 3 dL_law_1143 rfl ?_
                                        refine dn_iconst (pc := 1144) (v := 4) dL_law_1144 rfl ?_
                                        refine dn_iadd (pc := 1145) dL_law_1145 ?_
                                        refine dn_sald (pc := 1146) dL_law_1146 (fun v227 => ?_)
                                        refine dn_callV0I (pc := 1147) [.int v224, .int v225, .int v226, .int v227] v1 kRL_86 (mX12_pour w x b v1 v224 v225 v226 v227) rfl rfl (Nat.le_of_ble_eq_true rfl) ⟨(Nat.le_of_ble_eq_true rfl), (Nat.le_of_ble_eq_true rfl)⟩ ⟨rfl, rfl, (by show 400 + 128 * s18.toNatClampNeg ≤ 600000; omega), (by show 9000 + 1371 * s18.toNatClampNeg ≤ 7302250; omega)⟩ dL_law_1147 (fun v228 => ?_)
                                        refine dn_aload_n (pc := 1150) v3 2 dL_law_1150 rfl ?_
                                        refine dn_aloadX_n (pc := 1151) 0 dL_law_1151 rfl ?_
                                        refine dn_iload_n (pc := 1152) 3 dL_law_1152 rfl ?_
                                        refine dn_iconst (pc := 1153) (v := 1) dL_law_1153 rfl ?_
                                        refine dn_iadd (pc := 1154) dL_law_1154 ?_
                                        refine dn_sald (pc := 1155) dL_law_1155 (fun v229 => ?_)
                                        refine dn_aloadX_n (pc := 1156) 0 dL_law_1156 rfl ?_
                                        refine dn_iload_n (pc := 1157) 3 dL_law_1157 rfl ?_
                                        refine dn_iconst (pc := 1158) (v := 2) dL_law_1158 rfl ?_
                                        refine dn_iadd (pc := 1159) dL_law_1159 ?_
                                        refine dn_sald (pc := 1160) dL_law_1160 (fun v230 => ?_)
                                        refine dn_aloadX_n (pc := 1161) 0 dL_law_1161 rfl ?_
                                        refine dn_iload_n (pc := 1162) 3 dL_law_1162 rfl ?_
                                        refine dn_iconst (pc := 1163) (v := 3) dL_law_1163 rfl ?_
                                        refine dn_iadd (pc := 1164) dL_law_1164 ?_
                                        refine dn_sald (pc := 1165) dL_law_1165 (fun v231 => ?_)
                                        refine dn_aloadX_n (pc := 1166) 0 dL_law_1166 rfl ?_
                                        refine dn_iload_n (pc := 1167) 3 dL_law_1167 rfl ?_
                                        refine dn_iconst (pc := 1168) (v := 4) dL_law_1168 rfl ?_
                                        refine dn_iadd (pc := 1169) dL_law_1169 ?_
                                        refine dn_sald (pc := 1170) dL_law_1170 (fun v232 => ?_)
                                        refine dn_callV0I (pc := 1171) [.int v229, .int v230, .int v231, .int v232] v3 kRL_89 (mX13_pour w x b v3 v229 v230 v231 v232) rfl rfl (Nat.le_of_ble_eq_true rfl) ⟨(Nat.le_of_ble_eq_true rfl), (Nat.le_of_ble_eq_true rfl)⟩ ⟨rfl, rfl, (by show 400 + 128 * s18.toNatClampNeg ≤ 600000; omega), (by show 9000 + 1371 * s18.toNatClampNeg ≤ 7302250; omega)⟩ dL_law_1171 (fun v233 => ?_)
                                        refine dn_icmp_eq (pc := 1174) 2426 dL_law_1174 rfl (fun _ => ?_) (fun _ => ?_)
                                        · refine dn_widen (cells2 := 400 + 128 * s18.toNatClampNeg + 128) (slots2 := 9000 + 1371 * s18.toNatClampNeg + 1371) (by show 400 + 128 * s18.toNatClampNeg ≤ 400 + 128 * s18.toNatClampNeg + 128; omega) (by show 9000 + 1371 * s18.toNatClampNeg ≤ 9000 + 1371 * s18.toNatClampNeg + 1371; omega) ?_
                                          exact dn_lv [0, 1, 2, 3] rfl (hj2426 hle18)
                                        · refine dn_iconst (pc := 1177) (v := 0) dL_law_1177 rfl ?_
                                          refine dn_leaf ?_
                                          refine dn_widen (cells2 := 600000) (slots2 := 7302250) (by show 400 + 128 * s18.toNatClampNeg ≤ 600000; omega) (by show 9000 + 1371 * s18.toNatClampNeg ≤ 7302250; omega) ?_
                                          exact hR18 false _ _ _ rfl dL_law_1178
                                      · refine dn_tcase (pc := 33) 17 1179 dL_law_33 (by decide) (by decide) rfl rfl (fun _ => ?_) (fun n33_17 => ?_)
                                        · refine dn_aload_n (pc := 1179) v1 1 dL_law_1179 rfl ?_
                                          refine dn_aloadX_n (pc := 1180) 0 dL_law_1180 rfl ?_
                                          refine dn_iload_n (pc := 1181) 3 dL_law_1181 rfl ?_
                                          refine dn_iconst (pc := 1182) (v := 1) dL_law_1182 rfl ?_
                                          refine dn_iadd (pc := 1183) dL_law_1183 ?_
                                          refine dn_sald (pc := 1184) dL_law_1184 (fun v216 => ?_)
                                          refine dn_aloadX_n (pc := 1185) 0 dL_law_1185 rfl ?_
                                          refine dn_iload_n (pc := 1186) 3 dL_law_1186 rfl ?_
                                          refine dn_iconst (pc := 1187) (v := 2) dL_law_1187 rfl ?_
                                          refine dn_iadd (pc := 1188) dL_law_1188 ?_
                                          refine dn_sald (pc := 1189) dL_law_1189 (fun v217 => ?_)
                                          refine dn_aloadX_n (pc := 1190) 0 dL_law_1190 rfl ?_
                                          refine dn_iload_n (pc := 1191) 3 dL_law_1191 rfl ?_
                                          refine dn_iconst (pc := 1192) (v := 3) dL_law_1192 rfl ?_
                                          refine dn_iadd (pc := 1193) dL_law_1193 ?_
                                          refine dn_sald (pc := 1194) dL_law_1194 (fun v218 => ?_)
                                          refine dn_callV0I (pc := 1195) [.int v216, .int v217, .int v218] v1 kRL_90 (mX12_join w x b v1 v216 v217 v218) rfl rfl (Nat.le_of_ble_eq_true rfl) ⟨(Nat.le_of_ble_eq_true rfl), (Nat.le_of_ble_eq_true rfl)⟩ ⟨rfl, rfl, (by show 400 + 128 * s18.toNatClampNeg ≤ 600000; omega), (by show 9000 + 1371 * s18.toNatClampNeg ≤ 7302250; omega)⟩ dL_law_1195 (fun v219 => ?_)
                                          refine dn_aload_n (pc := 1198) v3 2 dL_law_1198 rfl ?_
                                          refine dn_aloadX_n (pc := 1199) 0 dL_law_1199 rfl ?_
                                          refine dn_iload_n (pc := 1200) 3 dL_law_1200 rfl ?_
                                          refine dn_iconst (pc := 1201) (v := 1) dL_law_1201 rfl ?_
                                          refine dn_iadd (pc := 1202) dL_law_1202 ?_
                                          refine dn_sald (pc := 1203) dL_law_1203 (fun v220 => ?_)
                                          refine dn_aloadX_n (pc := 1204) 0 dL_law_1204 rfl ?_
                                          refine dn_iload_n (pc := 1205) 3 dL_law_1205 rfl ?_
                                          refine dn_iconst (pc := 1206) (v := 2) dL_law_1206 rfl ?_
                                          refine dn_iadd (pc := 1207) dL_law_1207 ?_
                                          refine dn_sald (pc := 1208) dL_law_1208 (fun v221 => ?_)
                                          refine dn_aloadX_n (pc := 1209) 0 dL_law_1209 rfl ?_
                                          refine dn_iload_n (pc := 1210) 3 dL_law_1210 rfl ?_
                                          refine dn_iconst (pc := 1211) (v := 3) dL_law_1211 rfl ?_
                                          refine dn_iadd (pc := 1212) dL_law_1212 ?_
                                          refine dn_sald (pc := 1213) dL_law_1213 (fun v222 => ?_)
                                          refine dn_callV0I (pc := 1214) [.int v220, .int v221, .int v222] v3 kRL_93 (mX13_join w x b v3 v220 v221 v222) rfl rfl (Nat.le_of_ble_eq_true rfl) ⟨(Nat.le_of_ble_eq_true rfl), (Nat.le_of_ble_eq_true rfl)⟩ ⟨rfl, rfl, (by show 400 + 128 * s18.toNatClampNeg ≤ 600000; omega), (by show 9000 + 1371 * s18.toNatClampNeg ≤ 7302250; omega)⟩ dL_law_1214 (fun v223 => ?_)
                                          refine dn_icmp_eq (pc := 1217) 2426 dL_law_1217 rfl (fun _ => ?_) (fun _ => ?_)
                                          · refine dn_widen (cells2 := 400 + 128 * s18.toNatClampNeg + 128) (slots2 := 9000 + 1371 * s18.toNatClampNeg + 1371) (by show 400 + 128 * s18.toNatClampNeg ≤ 400 + 128 * s18.toNatClampNeg + 128; omega) (by show 9000 + 1371 * s18.toNatClampNeg ≤ 9000 + 1371 * s18.toNatClampNeg + 1371; omega) ?_
                                            exact dn_lv [0, 1, 2, 3] rfl (hj2426 hle18)
                                          · refine dn_iconst (pc := 1220) (v := 0) dL_law_1220 rfl ?_
                                            refine dn_leaf ?_
                                            refine dn_widen (cells2 := 600000) (slots2 := 7302250) (by show 400 + 128 * s18.toNatClampNeg ≤ 600000; omega) (by show 9000 + 1371 * s18.toNatClampNeg ≤ 7302250; omega) ?_
                                            exact hR18 false _ _ _ rfl dL_law_1221
                                        · refine dn_tcase (pc := 33) 18 1222 dL_law_33 (by decide) (by decide) rfl rfl (fun _ => ?_) (fun n33_18 => ?_)
                                          · refine dn_aload_n (pc := 1222) v1 1 dL_law_1222 rfl ?_
                                            refine dn_aloadX_n (pc := 1223) 0 dL_law_1223 rfl ?_
                                            refine dn_iload_n (pc := 1224) 3 dL_law_1224 rfl ?_
                                            refine dn_iconst (pc := 1225) (v := 1) dL_law_1225 rfl ?_
                                            refine dn_iadd (pc := 1226) dL_law_1226 ?_
                                            refine dn_sald (pc := 1227) dL_law_1227 (fun v210 => ?_)
                                            refine dn_aloadX_n (pc := 1228) 0 dL_law_1228 rfl ?_
                                            refine dn_iload_n (pc := 1229) 3 dL_law_1229 rfl ?_
                                            refine dn_iconst (pc := 1230) (v := 2) dL_law_1230 rfl ?_
                                            refine dn_iadd (pc := 1231) dL_law_1231 ?_
                                            refine dn_sald (pc := 1232) dL_law_1232 (fun v211 => ?_)
                                            refine dn_callV0I (pc := 1233) [.int v210, .int v211] v1 kRL_94 (mX12_flip w x b v1 v210 v211) rfl rfl (Nat.le_of_ble_eq_true rfl) ⟨(Nat.le_of_ble_eq_true rfl), (Nat.le_of_ble_eq_true rfl)⟩ ⟨rfl, rfl, (by show 400 + 128 * s18.toNatClampNeg ≤ 600000; omega), (by show 9000 + 1371 * s18.toNatClampNeg ≤ 7302250; omega)⟩ dL_law_1233 (fun v212 => ?_)
                                            refine dn_aload_n (pc := 1236) v3 2 dL_law_1236 rfl ?_
                                            refine dn_aloadX_n (pc := 1237) 0 dL_law_1237 rfl ?_
                                            refine dn_iload_n (pc := 1238) 3 dL_law_1238 rfl ?_
                                            refine dn_iconst (pc := 1239) (v := 1) dL_law_1239 rfl ?_
                                            refine dn_iadd (pc := 1240) dL_law_1240 ?_
                                            refine dn_sald (pc := 1241) dL_law_1241 (fun v213 => ?_)
                                            refine dn_aloadX_n (pc := 1242) 0 dL_law_1242 rfl ?_
                                            refine dn_iload_n (pc := 1243) 3 dL_law_1243 rfl ?_
                                            refine dn_iconst (pc := 1244) (v := 2) dL_law_1244 rfl ?_
                                            refine dn_iadd (pc := 1245) dL_law_1245 ?_
                                            refine dn_sald (pc := 1246) dL_law_1246 (fun v214 => ?_)
                                            refine dn_callV0I (pc := 1247) [.int v213, .int v214] v3 kRL_97 (mX13_flip w x b v3 v213 v214) rfl rfl (Nat.le_of_ble_eq_true rfl) ⟨(Nat.le_of_ble_eq_true rfl), (Nat.le_of_ble_eq_true rfl)⟩ ⟨rfl, rfl, (by show 400 + 128 * s18.toNatClampNeg ≤ 600000; omega), (by show 9000 + 1371 * s18.toNatClampNeg ≤ 7302250; omega)⟩ dL_law_1247 (fun v215 => ?_)
                                            refine dn_icmp_eq (pc := 1250) 2426 dL_law_1250 rfl (fun _ => ?_) (fun _ => ?_)
                                            · refine dn_widen (cells2 := 400 + 128 * s18.toNatClampNeg + 128) (slots2 := 9000 + 1371 * s18.toNatClampNeg + 1371) (by show 400 + 128 * s18.toNatClampNeg ≤ 400 + 128 * s18.toNatClampNeg + 128; omega) (by show 9000 + 1371 * s18.toNatClampNeg ≤ 9000 + 1371 * s18.toNatClampNeg + 1371; omega) ?_
                                              exact dn_lv [0, 1, 2, 3] rfl (hj2426 hle18)
                                            · refine dn_iconst (pc := 1253) (v := 0) dL_law_1253 rfl ?_
                                              refine dn_leaf ?_
                                              refine dn_widen (cells2 := 600000) (slots2 := 7302250) (by show 400 + 128 * s18.toNatClampNeg ≤ 600000; omega) (by show 9000 + 1371 * s18.toNatClampNeg ≤ 7302250; omega) ?_
                                              exact hR18 false _ _ _ rfl dL_law_1254
                                          · refine dn_tcase (pc := 33) 19 1255 dL_law_33 (by decide) (by decide) rfl rfl (fun _ => ?_) (fun n33_19 => ?_)
                                            · refine dn_aload_n (pc := 1255) v1 1 dL_law_1255 rfl ?_
                                              refine dn_aloadX_n (pc := 1256) 0 dL_law_1256 rfl ?_
                                              refine dn_iload_n (pc := 1257) 3 dL_law_1257 rfl ?_
                                              refine dn_iconst (pc := 1258) (v := 1) dL_law_1258 rfl ?_
                                              refine dn_iadd (pc := 1259) dL_law_1259 ?_
                                              refine dn_sald (pc := 1260) dL_law_1260 (fun v202 => ?_)
                                              refine dn_aloadX_n (pc := 1261) 0 dL_law_1261 rfl ?_
                                              refine dn_iload_n (pc := 1262) 3 dL_law_1262 rfl ?_
                                              refine dn_iconst (pc := 1263) (v := 2) dL_law_1263 rfl ?_
                                              refine dn_iadd (pc := 1264) dL_law_1264 ?_
                                              refine dn_sald (pc := 1265) dL_law_1265 (fun v203 => ?_)
                                              refine dn_aloadX_n (pc := 1266) 0 dL_law_1266 rfl ?_
                                              refine dn_iload_n (pc := 1267) 3 dL_law_1267 rfl ?_
                                              refine dn_iconst (pc := 1268) (v := 3) dL_law_1268 rfl ?_
                                              refine dn_iadd (pc := 1269) dL_law_1269 ?_
                                              refine dn_sald (pc := 1270) dL_law_1270 (fun v204 => ?_)
                                              refine dn_callV0I (pc := 1271) [.int v202, .int v203, .int v204] v1 kRL_98 (mX12_roll w x b v1 v202 v203 v204) rfl rfl (Nat.le_of_ble_eq_true rfl) ⟨(Nat.le_of_ble_eq_true rfl), (Nat.le_of_ble_eq_true rfl)⟩ ⟨rfl, rfl, (by show 400 + 128 * s18.toNatClampNeg ≤ 600000; omega), (by show 9000 + 1371 * s18.toNatClampNeg ≤ 7302250; omega)⟩ dL_law_1271 (fun v205 => ?_)
                                              refine dn_aload_n (pc := 1274) v3 2 dL_law_1274 rfl ?_
                                              refine dn_aloadX_n (pc := 1275) 0 dL_law_1275 rfl ?_
                                              refine dn_iload_n (pc := 1276) 3 dL_law_1276 rfl ?_
                                              refine dn_iconst (pc := 1277) (v := 1) dL_law_1277 rfl ?_
                                              refine dn_iadd (pc := 1278) dL_law_1278 ?_
                                              refine dn_sald (pc := 1279) dL_law_1279 (fun v206 => ?_)
                                              refine dn_aloadX_n (pc := 1280) 0 dL_law_1280 rfl ?_
                                              refine dn_iload_n (pc := 1281) 3 dL_law_1281 rfl ?_
                                              refine dn_iconst (pc := 1282) (v := 2) dL_law_1282 rfl ?_
                                              refine dn_iadd (pc := 1283) dL_law_1283 ?_
                                              refine dn_sald (pc := 1284) dL_law_1284 (fun v207 => ?_)
                                              refine dn_aloadX_n (pc := 1285) 0 dL_law_1285 rfl ?_
                                              refine dn_iload_n (pc := 1286) 3 dL_law_1286 rfl ?_
                                              refine dn_iconst (pc := 1287) (v := 3) dL_law_1287 rfl ?_
                                              refine dn_iadd (pc := 1288) dL_law_1288 ?_
                                              refine dn_sald (pc := 1289) dL_law_1289 (fun v208 => ?_)
                                              refine dn_callV0I (pc := 1290) [.int v206, .int v207, .int v208] v3 kRL_101 (mX13_roll w x b v3 v206 v207 v208) rfl rfl (Nat.le_of_ble_eq_true rfl) ⟨(Nat.le_of_ble_eq_true rfl), (Nat.le_of_ble_eq_true rfl)⟩ ⟨rfl, rfl, (by show 400 + 128 * s18.toNatClampNeg ≤ 600000; omega), (by show 9000 + 1371 * s18.toNatClampNeg ≤ 7302250; omega)⟩ dL_law_1290 (fun v209 => ?_)
                                              refine dn_icmp_eq (pc := 1293) 2426 dL_law_1293 rfl (fun _ => ?_) (fun _ => ?_)
                                              · refine dn_widen (cells2 := 400 + 128 * s18.toNatClampNeg + 128) (slots2 := 9000 + 1371 * s18.toNatClampNeg + 1371) (by show 400 + 128 * s18.toNatClampNeg ≤ 400 + 128 * s18.toNatClampNeg + 128; omega) (by show 9000 + 1371 * s18.toNatClampNeg ≤ 9000 + 1371 * s18.toNatClampNeg + 1371; omega) ?_
                                                exact dn_lv [0, 1, 2, 3] rfl (hj2426 hle18)
                                              · refine dn_iconst (pc := 1296) (v := 0) dL_law_1296 rfl ?_
                                                refine dn_leaf ?_
                                                refine dn_widen (cells2 := 600000) (slots2 := 7302250) (by show 400 + 128 * s18.toNatClampNeg ≤ 600000; omega) (by show 9000 + 1371 * s18.toNatClampNeg ≤ 7302250; omega) ?_
                                                exact hR18 false _ _ _ rfl dL_law_1297
                                            · refine dn_tcase (pc := 33) 20 1298 dL_law_33 (by decide) (by decide) rfl rfl (fun _ => ?_) (fun n33_20 => ?_)
                                              · refine dn_aload_n (pc := 1298) v1 1 dL_law_1298 rfl ?_
                                                refine dn_aloadX_n (pc := 1299) 0 dL_law_1299 rfl ?_
                                                refine dn_iload_n (pc := 1300) 3 dL_law_1300 rfl ?_
                                                refine dn_iconst (pc := 1301) (v := 1) dL_law_1301 rfl ?_
                                                refine dn_iadd (pc := 1302) dL_law_1302 ?_
                                                refine dn_sald (pc := 1303) dL_law_1303 (fun v196 => ?_)
                                                refine dn_aloadX_n (pc := 1304) 0 dL_law_1304 rfl ?_
                                                refine dn_iload_n (pc := 1305) 3 dL_law_1305 rfl ?_
                                                refine dn_iconst (pc := 1306) (v := 2) dL_law_1306 rfl ?_
                                                refine dn_iadd (pc := 1307) dL_law_1307 ?_
                                                refine dn_sald (pc := 1308) dL_law_1308 (fun v197 => ?_)
                                                refine dn_callV0I (pc := 1309) [.int v196, .int v197] v1 kRL_102 (mX12_order w x b v1 v196 v197) rfl rfl (Nat.le_of_ble_eq_true rfl) ⟨(Nat.le_of_ble_eq_true rfl), (Nat.le_of_ble_eq_true rfl)⟩ ⟨rfl, rfl, (by show 400 + 128 * s18.toNatClampNeg ≤ 600000; omega), (by show 9000 + 1371 * s18.toNatClampNeg ≤ 7302250; omega)⟩ dL_law_1309 (fun v198 => ?_)
                                                refine dn_aload_n (pc := 1312) v3 2 dL_law_1312 rfl ?_
                                                refine dn_aloadX_n (pc := 1313) 0 dL_law_1313 rfl ?_
                                                refine dn_iload_n (pc := 1314) 3 dL_law_1314 rfl ?_
                                                refine dn_iconst (pc := 1315) (v := 1) dL_law_1315 rfl ?_
                                                refine dn_iadd (pc := 1316) dL_law_1316 ?_
                                                refine dn_sald (pc := 1317) dL_law_1317 (fun v199 => ?_)
                                                refine dn_aloadX_n (pc := 1318) 0 dL_law_1318 rfl ?_
                                                refine dn_iload_n (pc := 1319) 3 dL_law_1319 rfl ?_
                                                refine dn_iconst (pc := 1320) (v := 2) dL_law_1320 rfl ?_
                                                refine dn_iadd (pc := 1321) dL_law_1321 ?_
                                                refine dn_sald (pc := 1322) dL_law_1322 (fun v200 => ?_)
                                                refine dn_callV0I (pc := 1323) [.int v199, .int v200] v3 kRL_105 (mX13_order w x b v3 v199 v200) rfl rfl (Nat.le_of_ble_eq_true rfl) ⟨(Nat.le_of_ble_eq_true rfl), (Nat.le_of_ble_eq_true rfl)⟩ ⟨rfl, rfl, (by show 400 + 128 * s18.toNatClampNeg ≤ 600000; omega), (by show 9000 + 1371 * s18.toNatClampNeg ≤ 7302250; omega)⟩ dL_law_1323 (fun v201 => ?_)
                                                refine dn_icmp_eq (pc := 1326) 2426 dL_law_1326 rfl (fun _ => ?_) (fun _ => ?_)
                                                · refine dn_widen (cells2 := 400 + 128 * s18.toNatClampNeg + 128) (slots2 := 9000 + 1371 * s18.toNatClampNeg + 1371) (by show 400 + 128 * s18.toNatClampNeg ≤ 400 + 128 * s18.toNatClampNeg + 128; omega) (by show 9000 + 1371 * s18.toNatClampNeg ≤ 9000 + 1371 * s18.toNatClampNeg + 1371; omega) ?_
                                                  exact dn_lv [0, 1, 2, 3] rfl (hj2426 hle18)
                                                · refine dn_iconst (pc := 1329) (v := 0) dL_law_1329 rfl ?_
                                                  refine dn_leaf ?_
                                                  refine dn_widen (cells2 := 600000) (slots2 := 7302250) (by show 400 + 128 * s18.toNatClampNeg ≤ 600000; omega) (by show 9000 + 1371 * s18.toNatClampNeg ≤ 7302250; omega) ?_
                                                  exact hR18 false _ _ _ rfl dL_law_1330
                                              · refine dn_tcase (pc := 33) 21 1331 dL_law_33 (by decide) (by decide) rfl rfl (fun _ => ?_) (fun n33_21 => ?_)
                                                · refine dn_aload_n (pc := 1331) v1 1 dL_law_1331 rfl ?_
                                                  refine dn_aloadX_n (pc := 1332) 0 dL_law_1332 rfl ?_
                                                  refine dn_iload_n (pc := 1333) 3 dL_law_1333 rfl ?_
                                                  refine dn_iconst (pc := 1334) (v := 1) dL_law_1334 rfl ?_
                                                  refine dn_iadd (pc := 1335) dL_law_1335 ?_
                                                  refine dn_sald (pc := 1336) dL_law_1336 (fun v186 => ?_)
                                                  refine dn_aloadX_n (pc := 1337) 0 dL_law_1337 rfl ?_
                                                  refine dn_iload_n (pc := 1338) 3 dL_law_1338 rfl ?_
                                                  refine dn_iconst (pc := 1339) (v := 2) dL_law_1339 rfl ?_
                                                  refine dn_iadd (pc := 1340) dL_law_1340 ?_
                                                  refine dn_sald (pc := 1341) dL_law_1341 (fun v187 => ?_)
                                                  refine dn_aloadX_n (pc := 1342) 0 dL_law_1342 rfl ?_
                                                  refine dn_iload_n (pc := 1343) 3 dL_law_1343 rfl ?_
                                                  refine dn_iconst (pc := 1344) (v := 3) dL_law_1344 rfl ?_
                                                  refine dn_iadd (pc := 1345) dL_law_1345 ?_
                                                  refine dn_sald (pc := 1346) dL_law_1346 (fun v188 => ?_)
                                                  refine dn_aloadX_n (pc := 1347) 0 dL_law_1347 rfl ?_
                                                  refine dn_iload_n (pc := 1348) 3 dL_law_1348 rfl ?_
                                                  refine dn_iconst (pc := 1349) (v := 4) dL_law_1349 rfl ?_
                                                  refine dn_iadd (pc := 1350) dL_law_1350 ?_
                                                  refine dn_sald (pc := 1351) dL_law_1351 (fun v189 => ?_)
                                                  refine dn_callV0I (pc := 1352) [.int v186, .int v187, .int v188, .int v189] v1 kRL_106 (mX12_add w x b v1 v186 v187 v188 v189) rfl rfl (Nat.le_of_ble_eq_true rfl) ⟨(Nat.le_of_ble_eq_true rfl), (Nat.le_of_ble_eq_true rfl)⟩ ⟨rfl, rfl, (by show 400 + 128 * s18.toNatClampNeg ≤ 600000; omega), (by show 9000 + 1371 * s18.toNatClampNeg ≤ 7302250; omega)⟩ dL_law_1352 (fun v190 => ?_)
                                                  refine dn_aload_n (pc := 1355) v3 2 dL_law_1355 rfl ?_
                                                  refine dn_aloadX_n (pc := 1356) 0 dL_law_1356 rfl ?_
                                                  refine dn_iload_n (pc := 1357) 3 dL_law_1357 rfl ?_
                                                  refine dn_iconst (pc := 1358) (v := 1) dL_law_1358 rfl ?_
                                                  refine dn_iadd (pc := 1359) dL_law_1359 ?_
                                                  refine dn_sald (pc := 1360) dL_law_1360 (fun v191 => ?_)
                                                  refine dn_aloadX_n (pc := 1361) 0 dL_law_1361 rfl ?_
                                                  refine dn_iload_n (pc := 1362) 3 dL_law_1362 rfl ?_
                                                  refine dn_iconst (pc := 1363) (v := 2) dL_law_1363 rfl ?_
                                                  refine dn_iadd (pc := 1364) dL_law_1364 ?_
                                                  refine dn_sald (pc := 1365) dL_law_1365 (fun v192 => ?_)
                                                  refine dn_aloadX_n (pc := 1366) 0 dL_law_1366 rfl ?_
                                                  refine dn_iload_n (pc := 1367) 3 dL_law_1367 rfl ?_
                                                  refine dn_iconst (pc := 1368) (v := 3) dL_law_1368 rfl ?_
                                                  refine dn_iadd (pc := 1369) dL_law_1369 ?_
                                                  refine dn_sald (pc := 1370) dL_law_1370 (fun v193 => ?_)
                                                  refine dn_aloadX_n (pc := 1371) 0 dL_law_1371 rfl ?_
                                                  refine dn_iload_n (pc := 1372) 3 dL_law_1372 rfl ?_
                                                  refine dn_iconst (pc := 1373) (v := 4) dL_law_1373 rfl ?_
                                                  refine dn_iadd (pc := 1374) dL_law_1374 ?_
                                                  refine dn_sald (pc := 1375) dL_law_1375 (fun v194 => ?_)
                                                  refine dn_callV0I (pc := 1376) [.int v191, .int v192, .int v193, .int v194] v3 kRL_109 (mX13_add w x b v3 v191 v192 v193 v194) rfl rfl (Nat.le_of_ble_eq_true rfl) ⟨(Nat.le_of_ble_eq_true rfl), (Nat.le_of_ble_eq_true rfl)⟩ ⟨rfl, rfl, (by show 400 + 128 * s18.toNatClampNeg ≤ 600000; omega), (by show 9000 + 1371 * s18.toNatClampNeg ≤ 7302250; omega)⟩ dL_law_1376 (fun v195 => ?_)
                                                  refine dn_icmp_eq (pc := 1379) 2426 dL_law_1379 rfl (fun _ => ?_) (fun _ => ?_)
                                                  · refine dn_widen (cells2 := 400 + 128 * s18.toNatClampNeg + 128) (slots2 := 9000 + 1371 * s18.toNatClampNeg + 1371) (by show 400 + 128 * s18.toNatClampNeg ≤ 400 + 128 * s18.toNatClampNeg + 128; omega) (by show 9000 + 1371 * s18.toNatClampNeg ≤ 9000 + 1371 * s18.toNatClampNeg + 1371; omega) ?_
                                                    exact dn_lv [0, 1, 2, 3] rfl (hj2426 hle18)
                                                  · refine dn_iconst (pc := 1382) (v := 0) dL_law_1382 rfl ?_
                                                    refine dn_leaf ?_
                                                    refine dn_widen (cells2 := 600000) (slots2 := 7302250) (by show 400 + 128 * s18.toNatClampNeg ≤ 600000; omega) (by show 9000 + 1371 * s18.toNatClampNeg ≤ 7302250; omega) ?_
                                                    exact hR18 false _ _ _ rfl dL_law_1383
                                                · refine dn_tcase (pc := 33) 22 1384 dL_law_33 (by decide) (by decide) rfl rfl (fun _ => ?_) (fun n33_22 => ?_)
                                                  · refine dn_aload_n (pc := 1384) v1 1 dL_law_1384 rfl ?_
                                                    refine dn_aloadX_n (pc := 1385) 0 dL_law_1385 rfl ?_
                                                    refine dn_iload_n (pc := 1386) 3 dL_law_1386 rfl ?_
                                                    refine dn_iconst (pc := 1387) (v := 1) dL_law_1387 rfl ?_
                                                    refine dn_iadd (pc := 1388) dL_law_1388 ?_
                                                    refine dn_sald (pc := 1389) dL_law_1389 (fun v172 => ?_)
                                                    refine dn_aloadX_n (pc := 1390) 0 dL_law_1390 rfl ?_
                                                    refine dn_iload_n (pc := 1391) 3 dL_law_1391 rfl ?_
                                                    refine dn_iconst (pc := 1392) (v := 2) dL_law_1392 rfl ?_
                                                    refine dn_iadd (pc := 1393) dL_law_1393 ?_
                                                    refine dn_sald (pc := 1394) dL_law_1394 (fun v173 => ?_)
                                                    refine dn_aloadX_n (pc := 1395) 0 dL_law_1395 rfl ?_
                                                    refine dn_iload_n (pc := 1396) 3 dL_law_1396 rfl ?_
                                                    refine dn_iconst (pc := 1397) (v := 3) dL_law_1397 rfl ?_
                                                    refine dn_iadd (pc := 1398) dL_law_1398 ?_
                                                    refine dn_sald (pc := 1399) dL_law_1399 (fun v174 => ?_)
                                                    refine dn_aloadX_n (pc := 1400) 0 dL_law_1400 rfl ?_
                                                    refine dn_iload_n (pc := 1401) 3 dL_law_1401 rfl ?_
                                                    refine dn_iconst (pc := 1402) (v := 4) dL_law_1402 rfl ?_
                                                    refine dn_iadd (pc := 1403) dL_law_1403 ?_
                                                    refine dn_sald (pc := 1404) dL_law_1404 (fun v175 => ?_)
                                                    refine dn_i2l (pc := 1405) dL_law_1405 ?_
                                                    refine dn_bipush (pc := 1406) (v := 32) dL_law_1406 rfl ?_
                                                    refine dn_lshl (pc := 1408) dL_law_1408 ?_
                                                    refine dn_aloadX_n (pc := 1409) 0 dL_law_1409 rfl ?_
                                                    refine dn_iload_n (pc := 1410) 3 dL_law_1410 rfl ?_
                                                    refine dn_iconst (pc := 1411) (v := 5) dL_law_1411 rfl ?_
                                                    refine dn_iadd (pc := 1412) dL_law_1412 ?_
                                                    refine dn_sald (pc := 1413) dL_law_1413 (fun v176 => ?_)
                                                    refine dn_i2l (pc := 1414) dL_law_1414 ?_
                                                    refine dn_ldc2 (pc := 1415) kRL_57 dL_law_1415 ?_
                                                    refine dn_land (pc := 1418) dL_law_1418 ?_
                                                    refine dn_lor (pc := 1419) dL_law_1419 ?_
                                                    refine dn_aloadX_n (pc := 1420) 0 dL_law_1420 rfl ?_
                                                    refine dn_iload_n (pc := 1421) 3 dL_law_1421 rfl ?_
                                                    refine dn_bipush (pc := 1422) (v := 6) dL_law_1422 rfl ?_
                                                    refine dn_iadd (pc := 1424) dL_law_1424 ?_
                                                    refine dn_sald (pc := 1425) dL_law_1425 (fun v177 => ?_)
                                                    refine dn_callV0I (pc := 1426) [.int v172, .int v173, .int v174, .long ((((v175 : Int32).toInt64) <<< ((32 : Int32).toInt64 &&& 63)) ||| (((v176 : Int32).toInt64) &&& 4294967295)), .int v177] v1 kRL_110 (mX12_above w x b v1 v172 v173 v174 ((((v175 : Int32).toInt64) <<< ((32 : Int32).toInt64 &&& 63)) ||| (((v176 : Int32).toInt64) &&& 4294967295)) v177) rfl rfl (Nat.le_of_ble_eq_true rfl) ⟨(Nat.le_of_ble_eq_true rfl), (Nat.le_of_ble_eq_true rfl)⟩ ⟨rfl, rfl, (by show 400 + 128 * s18.toNatClampNeg ≤ 600000; omega), (by show 9000 + 1371 * s18.toNatClampNeg ≤ 7302250; omega)⟩ dL_law_1426 (fun v178 => ?_)
                                                    refine dn_aload_n (pc := 1429) v3 2 dL_law_1429 rfl ?_
                                                    refine dn_aloadX_n (pc := 1430) 0 dL_law_1430 rfl ?_
                                                    refine dn_iload_n (pc := 1431) 3 dL_law_1431 rfl ?_
                                                    refine dn_iconst (pc := 1432) (v := 1) dL_law_1432 rfl ?_
                                                    refine dn_iadd (pc := 1433) dL_law_1433 ?_
                                                    refine dn_sald (pc := 1434) dL_law_1434 (fun v179 => ?_)
                                                    refine dn_aloadX_n (pc := 1435) 0 dL_law_1435 rfl ?_
                                                    refine dn_iload_n (pc := 1436) 3 dL_law_1436 rfl ?_
                                                    refine dn_iconst (pc := 1437) (v := 2) dL_law_1437 rfl ?_
                                                    refine dn_iadd (pc := 1438) dL_law_1438 ?_
                                                    refine dn_sald (pc := 1439) dL_law_1439 (fun v180 => ?_)
                                                    refine dn_aloadX_n (pc := 1440) 0 dL_law_1440 rfl ?_
                                                    refine dn_iload_n (pc := 1441) 3 dL_law_1441 rfl ?_
                                                    refine dn_iconst (pc := 1442) (v := 3) dL_law_1442 rfl ?_
                                                    refine dn_iadd (pc := 1443) dL_law_1443 ?_
                                                    refine dn_sald (pc := 1444) dL_law_1444 (fun v181 => ?_)
                                                    refine dn_aloadX_n (pc := 1445) 0 dL_law_1445 rfl ?_
                                                    refine dn_iload_n (pc := 1446) 3 dL_law_1446 rfl ?_
                                                    refine dn_iconst (pc := 1447) (v := 4) dL_law_1447 rfl ?_
                                                    refine dn_iadd (pc := 1448) dL_law_1448 ?_
                                                    refine dn_sald (pc := 1449) dL_law_1449 (fun v182 => ?_)
                                                    refine dn_i2l (pc := 1450) dL_law_1450 ?_
                                                    refine dn_bipush (pc := 1451) (v := 32) dL_law_1451 rfl ?_
                                                    refine dn_lshl (pc := 1453) dL_law_1453 ?_
                                                    refine dn_aloadX_n (pc := 1454) 0 dL_law_1454 rfl ?_
                                                    refine dn_iload_n (pc := 1455) 3 dL_law_1455 rfl ?_
                                                    refine dn_iconst (pc := 1456) (v := 5) dL_law_1456 rfl ?_
                                                    refine dn_iadd (pc := 1457) dL_law_1457 ?_
                                                    refine dn_sald (pc := 1458) dL_law_1458 (fun v183 => ?_)
                                                    refine dn_i2l (pc := 1459) dL_law_1459 ?_
                                                    refine dn_ldc2 (pc := 1460) kRL_57 dL_law_1460 ?_
                                                    refine dn_land (pc := 1463) dL_law_1463 ?_
                                                    refine dn_lor (pc := 1464) dL_law_1464 ?_
                                                    refine dn_aloadX_n (pc := 1465) 0 dL_law_1465 rfl ?_
                                                    refine dn_iload_n (pc := 1466) 3 dL_law_1466 rfl ?_
                                                    refine dn_bipush (pc := 1467) (v := 6) dL_law_1467 rfl ?_
                                                    refine dn_iadd (pc := 1469) dL_law_1469 ?_
                                                    refine dn_sald (pc := 1470) dL_law_1470 (fun v184 => ?_)
                                                    refine dn_callV0I (pc := 1471) [.int v179, .int v180, .int v181, .long ((((v182 : Int32).toInt64) <<< ((32 : Int32).toInt64 &&& 63)) ||| (((v183 : Int32).toInt64) &&& 4294967295)), .int v184] v3 kRL_114 (mX13_above w x b v3 v179 v180 v181 ((((v182 : Int32).toInt64) <<< ((32 : Int32).toInt64 &&& 63)) ||| (((v183 : Int32).toInt64) &&& 4294967295)) v184) rfl rfl (Nat.le_of_ble_eq_true rfl) ⟨(Nat.le_of_ble_eq_true rfl), (Nat.le_of_ble_eq_true rfl)⟩ ⟨rfl, rfl, (by show 400 + 128 * s18.toNatClampNeg ≤ 600000; omega), (by show 9000 + 1371 * s18.toNatClampNeg ≤ 7302250; omega)⟩ dL_law_1471 (fun v185 => ?_)
                                                    refine dn_icmp_eq (pc := 1474) 2426 dL_law_1474 rfl (fun _ => ?_) (fun _ => ?_)
                                                    · refine dn_widen (cells2 := 400 + 128 * s18.toNatClampNeg + 128) (slots2 := 9000 + 1371 * s18.toNatClampNeg + 1371) (by show 400 + 128 * s18.toNatClampNeg ≤ 400 + 128 * s18.toNatClampNeg + 128; omega) (by show 9000 + 1371 * s18.toNatClampNeg ≤ 9000 + 1371 * s18.toNatClampNeg + 1371; omega) ?_
                                                      exact dn_lv [0, 1, 2, 3] rfl (hj2426 hle18)
                                                    · refine dn_iconst (pc := 1477) (v := 0) dL_law_1477 rfl ?_
                                                      refine dn_leaf ?_
                                                      refine dn_widen (cells2 := 600000) (slots2 := 7302250) (by show 400 + 128 * s18.toNatClampNeg ≤ 600000; omega) (by show 9000 + 1371 * s18.toNatClampNeg ≤ 7302250; omega) ?_
                                                      exact hR18 false _ _ _ rfl dL_law_1478
                                                  · refine dn_tcase (pc := 33) 23 1479 dL_law_33 (by decide) (by decide) rfl rfl (fun _ => ?_) (fun n33_23 => ?_)
                                                    · refine dn_aload_n (pc := 1479) v1 1 dL_law_1479 rfl ?_
                                                      refine dn_aloadX_n (pc := 1480) 0 dL_law_1480 rfl ?_
                                                      refine dn_iload_n (pc := 1481) 3 dL_law_1481 rfl ?_
                                                      refine dn_iconst (pc := 1482) (v := 1) dL_law_1482 rfl ?_
                                                      refine dn_iadd (pc := 1483) dL_law_1483 ?_
                                                      refine dn_sald (pc := 1484) dL_law_1484 (fun v164 => ?_)
                                                      refine dn_aloadX_n (pc := 1485) 0 dL_law_1485 rfl ?_
                                                      refine dn_iload_n (pc := 1486) 3 dL_law_1486 rfl ?_
                                                      refine dn_iconst (pc := 1487) (v := 2) dL_law_1487 rfl ?_
                                                      refine dn_iadd (pc := 1488) dL_law_1488 ?_
                                                      refine dn_sald (pc := 1489) dL_law_1489 (fun v165 => ?_)
                                                      refine dn_aloadX_n (pc := 1490) 0 dL_law_1490 rfl ?_
                                                      refine dn_iload_n (pc := 1491) 3 dL_law_1491 rfl ?_
                                                      refine dn_iconst (pc := 1492) (v := 3) dL_law_1492 rfl ?_
                                                      refine dn_iadd (pc := 1493) dL_law_1493 ?_
                                                      refine dn_sald (pc := 1494) dL_law_1494 (fun v166 => ?_)
                                                      refine dn_callV0I (pc := 1495) [.int v164, .int v165, .int v166] v1 kRL_115 (mX12_pick w x b v1 v164 v165 v166) rfl rfl (Nat.le_of_ble_eq_true rfl) ⟨(Nat.le_of_ble_eq_true rfl), (Nat.le_of_ble_eq_true rfl)⟩ ⟨rfl, rfl, (by show 400 + 128 * s18.toNatClampNeg ≤ 600000; omega), (by show 9000 + 1371 * s18.toNatClampNeg ≤ 7302250; omega)⟩ dL_law_1495 (fun v167 => ?_)
                                                      refine dn_aload_n (pc := 1498) v3 2 dL_law_1498 rfl ?_
                                                      refine dn_aloadX_n (pc := 1499) 0 dL_law_1499 rfl ?_
                                                      refine dn_iload_n (pc := 1500) 3 dL_law_1500 rfl ?_
                                                      refine dn_iconst (pc := 1501) (v := 1) dL_law_1501 rfl ?_
                                                      refine dn_iadd (pc := 1502) dL_law_1502 ?_
                                                      refine dn_sald (pc := 1503) dL_law_1503 (fun v168 => ?_)
                                                      refine dn_aloadX_n (pc := 1504) 0 dL_law_1504 rfl ?_
                                                      refine dn_iload_n (pc := 1505) 3 dL_law_1505 rfl ?_
                                                      refine dn_iconst (pc := 1506) (v := 2) dL_law_1506 rfl ?_
                                                      refine dn_iadd (pc := 1507) dL_law_1507 ?_
                                                      refine dn_sald (pc := 1508) dL_law_1508 (fun v169 => ?_)
                                                      refine dn_aloadX_n (pc := 1509) 0 dL_law_1509 rfl ?_
                                                      refine dn_iload_n (pc := 1510) 3 dL_law_1510 rfl ?_
                                                      refine dn_iconst (pc := 1511) (v := 3) dL_law_1511 rfl ?_
                                                      refine dn_iadd (pc := 1512) dL_law_1512 ?_
                                                      refine dn_sald (pc := 1513) dL_law_1513 (fun v170 => ?_)
                                                      refine dn_callV0I (pc := 1514) [.int v168, .int v169, .int v170] v3 kRL_118 (mX13_pick w x b v3 v168 v169 v170) rfl rfl (Nat.le_of_ble_eq_true rfl) ⟨(Nat.le_of_ble_eq_true rfl), (Nat.le_of_ble_eq_true rfl)⟩ ⟨rfl, rfl, (by show 400 + 128 * s18.toNatClampNeg ≤ 600000; omega), (by show 9000 + 1371 * s18.toNatClampNeg ≤ 7302250; omega)⟩ dL_law_1514 (fun v171 => ?_)
                                                      refine dn_icmp_eq (pc := 1517) 2426 dL_law_1517 rfl (fun _ => ?_) (fun _ => ?_)
                                                      · refine dn_widen (cells2 := 400 + 128 * s18.toNatClampNeg + 128) (slots2 := 9000 + 1371 * s18.toNatClampNeg + 1371) (by show 400 + 128 * s18.toNatClampNeg ≤ 400 + 128 * s18.toNatClampNeg + 128; omega) (by show 9000 + 1371 * s18.toNatClampNeg ≤ 9000 + 1371 * s18.toNatClampNeg + 1371; omega) ?_
                                                        exact dn_lv [0, 1, 2, 3] rfl (hj2426 hle18)
                                                      · refine dn_iconst (pc := 1520) (v := 0) dL_law_1520 rfl ?_
                                                        refine dn_leaf ?_
                                                        refine dn_widen (cells2 := 600000) (slots2 := 7302250) (by show 400 + 128 * s18.toNatClampNeg ≤ 600000; omega) (by show 9000 + 1371 * s18.toNatClampNeg ≤ 7302250; omega) ?_
                                                        exact hR18 false _ _ _ rfl dL_law_1521
                                                    · refine dn_tcase (pc := 33) 24 1522 dL_law_33 (by decide) (by decide) rfl rfl (fun _ => ?_) (fun n33_24 => ?_)
                                                      · refine dn_aload_n (pc := 1522) v1 1 dL_law_1522 rfl ?_
                                                        refine dn_aloadX_n (pc := 1523) 0 dL_law_1523 rfl ?_
                                                        refine dn_iload_n (pc := 1524) 3 dL_law_1524 rfl ?_
                                                        refine dn_iconst (pc := 1525) (v := 1) dL_law_1525 rfl ?_
                                                        refine dn_iadd (pc := 1526) dL_law_1526 ?_
                                                        refine dn_sald (pc := 1527) dL_law_1527 (fun v156 => ?_)
                                                        refine dn_aloadX_n (pc := 1528) 0 dL_law_1528 rfl ?_
                                                        refine dn_iload_n (pc := 1529) 3 dL_law_1529 rfl ?_
                                                        refine dn_iconst (pc := 1530) (v := 2) dL_law_1530 rfl ?_
                                                        refine dn_iadd (pc := 1531) dL_law_1531 ?_
                                                        refine dn_sald (pc := 1532) dL_law_1532 (fun v157 => ?_)
                                                        refine dn_aloadX_n (pc := 1533) 0 dL_law_1533 rfl ?_
                                                        refine dn_iload_n (pc := 1534) 3 dL_law_1534 rfl ?_
                                                        refine dn_iconst (pc := 1535) (v := 3) dL_law_1535 rfl ?_
                                                        refine dn_iadd (pc := 1536) dL_law_1536 ?_
                                                        refine dn_sald (pc := 1537) dL_law_1537 (fun v158 => ?_)
                                                        refine dn_callV0I (pc := 1538) [.int v156, .int v157, .int v158] v1 kRL_119 (mX12_flat w x b v1 v156 v157 v158) rfl rfl (Nat.le_of_ble_eq_true rfl) ⟨(Nat.le_of_ble_eq_true rfl), (Nat.le_of_ble_eq_true rfl)⟩ ⟨rfl, rfl, (by show 400 + 128 * s18.toNatClampNeg ≤ 600000; omega), (by show 9000 + 1371 * s18.toNatClampNeg ≤ 7302250; omega)⟩ dL_law_1538 (fun v159 => ?_)
                                                        refine dn_aload_n (pc := 1541) v3 2 dL_law_1541 rfl ?_
                                                        refine dn_aloadX_n (pc := 1542) 0 dL_law_1542 rfl ?_
                                                        refine dn_iload_n (pc := 1543) 3 dL_law_1543 rfl ?_
                                                        refine dn_iconst (pc := 1544) (v := 1) dL_law_1544 rfl ?_
                                                        refine dn_iadd (pc := 1545) dL_law_1545 ?_
                                                        refine dn_sald (pc := 1546) dL_law_1546 (fun v160 => ?_)
                                                        refine dn_aloadX_n (pc := 1547) 0 dL_law_1547 rfl ?_
                                                        refine dn_iload_n (pc := 1548) 3 dL_law_1548 rfl ?_
                                                        refine dn_iconst (pc := 1549) (v := 2) dL_law_1549 rfl ?_
                                                        refine dn_iadd (pc := 1550) dL_law_1550 ?_
                                                        refine dn_sald (pc := 1551) dL_law_1551 (fun v161 => ?_)
                                                        refine dn_aloadX_n (pc := 1552) 0 dL_law_1552 rfl ?_
                                                        refine dn_iload_n (pc := 1553) 3 dL_law_1553 rfl ?_
                                                        refine dn_iconst (pc := 1554) (v := 3) dL_law_1554 rfl ?_
                                                        refine dn_iadd (pc := 1555) dL_law_1555 ?_
                                                        refine dn_sald (pc := 1556) dL_law_1556 (fun v162 => ?_)
                                                        refine dn_callV0I (pc := 1557) [.int v160, .int v161, .int v162] v3 kRL_122 (mX13_flat w x b v3 v160 v161 v162) rfl rfl (Nat.le_of_ble_eq_true rfl) ⟨(Nat.le_of_ble_eq_true rfl), (Nat.le_of_ble_eq_true rfl)⟩ ⟨rfl, rfl, (by show 400 + 128 * s18.toNatClampNeg ≤ 600000; omega), (by show 9000 + 1371 * s18.toNatClampNeg ≤ 7302250; omega)⟩ dL_law_1557 (fun v163 => ?_)
                                                        refine dn_icmp_eq (pc := 1560) 2426 dL_law_1560 rfl (fun _ => ?_) (fun _ => ?_)
                                                        · refine dn_widen (cells2 := 400 + 128 * s18.toNatClampNeg + 128) (slots2 := 9000 + 1371 * s18.toNatClampNeg + 1371) (by show 400 + 128 * s18.toNatClampNeg ≤ 400 + 128 * s18.toNatClampNeg + 128; omega) (by show 9000 + 1371 * s18.toNatClampNeg ≤ 9000 + 1371 * s18.toNatClampNeg + 1371; omega) ?_
                                                          exact dn_lv [0, 1, 2, 3] rfl (hj2426 hle18)
                                                        · refine dn_iconst (pc := 1563) (v := 0) dL_law_1563 rfl ?_
                                                          refine dn_leaf ?_
                                                          refine dn_widen (cells2 := 600000) (slots2 := 7302250) (by show 400 + 128 * s18.toNatClampNeg ≤ 600000; omega) (by show 9000 + 1371 * s18.toNatClampNeg ≤ 7302250; omega) ?_
                                                          exact hR18 false _ _ _ rfl dL_law_1564
                                                      · refine dn_tcase (pc := 33) 25 1565 dL_law_33 (by decide) (by decide) rfl rfl (fun _ => ?_) (fun n33_25 => ?_)
                                                        · refine dn_aload_n (pc := 1565) v1 1 dL_law_1565 rfl ?_
                                                          refine dn_aloadX_n (pc := 1566) 0 dL_law_1566 rfl ?_
                                                          refine dn_iload_n (pc := 1567) 3 dL_law_1567 rfl ?_
                                                          refine dn_iconst (pc := 1568) (v := 1) dL_law_1568 rfl ?_
                                                          refine dn_iadd (pc := 1569) dL_law_1569 ?_
                                                          refine dn_sald (pc := 1570) dL_law_1570 (fun v146 => ?_)
                                                          refine dn_aloadX_n (pc := 1571) 0 dL_law_1571 rfl ?_
                                                          refine dn_iload_n (pc := 1572) 3 dL_law_1572 rfl ?_
                                                          refine dn_iconst (pc := 1573) (v := 2) dL_law_1573 rfl ?_
                                                          refine dn_iadd (pc := 1574) dL_law_1574 ?_
                                                          refine dn_sald (pc := 1575) dL_law_1575 (fun v147 => ?_)
                                                          refine dn_aloadX_n (pc := 1576) 0 dL_law_1576 rfl ?_
                                                          refine dn_iload_n (pc := 1577) 3 dL_law_1577 rfl ?_
                                                          refine dn_iconst (pc := 1578) (v := 3) dL_law_1578 rfl ?_
                                                          refine dn_iadd (pc := 1579) dL_law_1579 ?_
                                                          refine dn_sald (pc := 1580) dL_law_1580 (fun v148 => ?_)
                                                          refine dn_aloadX_n (pc := 1581) 0 dL_law_1581 rfl ?_
                                                          refine dn_iload_n (pc := 1582) 3 dL_law_1582 rfl ?_
                                                          refine dn_iconst (pc := 1583) (v := 4) dL_law_1583 rfl ?_
                                                          refine dn_iadd (pc := 1584) dL_law_1584 ?_
                                                          refine dn_sald (pc := 1585) dL_law_1585 (fun v149 => ?_)
                                                          refine dn_callV0I (pc := 1586) [.int v146, .int v147, .int v148, .int v149] v1 kRL_123 (mX12_deal w x b v1 v146 v147 v148 v149) rfl rfl (Nat.le_of_ble_eq_true rfl) ⟨(Nat.le_of_ble_eq_true rfl), (Nat.le_of_ble_eq_true rfl)⟩ ⟨rfl, rfl, (by show 400 + 128 * s18.toNatClampNeg ≤ 600000; omega), (by show 9000 + 1371 * s18.toNatClampNeg ≤ 7302250; omega)⟩ dL_law_1586 (fun v150 => ?_)
                                                          refine dn_aload_n (pc := 1589) v3 2 dL_law_1589 rfl ?_
                                                          refine dn_aloadX_n (pc := 1590) 0 dL_law_1590 rfl ?_
                                                          refine dn_iload_n (pc := 1591) 3 dL_law_1591 rfl ?_
                                                          refine dn_iconst (pc := 1592) (v := 1) dL_law_1592 rfl ?_
                                                          refine dn_iadd (pc := 1593) dL_law_1593 ?_
                                                          refine dn_sald (pc := 1594) dL_law_1594 (fun v151 => ?_)
                                                          refine dn_aloadX_n (pc := 1595) 0 dL_law_1595 rfl ?_
                                                          refine dn_iload_n (pc := 1596) 3 dL_law_1596 rfl ?_
                                                          refine dn_iconst (pc := 1597) (v := 2) dL_law_1597 rfl ?_
                                                          refine dn_iadd (pc := 1598) dL_law_1598 ?_
                                                          refine dn_sald (pc := 1599) dL_law_1599 (fun v152 => ?_)
                                                          refine dn_aloadX_n (pc := 1600) 0 dL_law_1600 rfl ?_
                                                          refine dn_iload_n (pc := 1601) 3 dL_law_1601 rfl ?_
                                                          refine dn_iconst (pc := 1602) (v := 3) dL_law_1602 rfl ?_
                                                          refine dn_iadd (pc := 1603) dL_law_1603 ?_
                                                          refine dn_sald (pc := 1604) dL_law_1604 (fun v153 => ?_)
                                                          refine dn_aloadX_n (pc := 1605) 0 dL_law_1605 rfl ?_
                                                          refine dn_iload_n (pc := 1606) 3 dL_law_1606 rfl ?_
                                                          refine dn_iconst (pc := 1607) (v := 4) dL_law_1607 rfl ?_
                                                          refine dn_iadd (pc := 1608) dL_law_1608 ?_
                                                          refine dn_sald (pc := 1609) dL_law_1609 (fun v154 => ?_)
                                                          refine dn_callV0I (pc := 1610) [.int v151, .int v152, .int v153, .int v154] v3 kRL_126 (mX13_deal w x b v3 v151 v152 v153 v154) rfl rfl (Nat.le_of_ble_eq_true rfl) ⟨(Nat.le_of_ble_eq_true rfl), (Nat.le_of_ble_eq_true rfl)⟩ ⟨rfl, rfl, (by show 400 + 128 * s18.toNatClampNeg ≤ 600000; omega), (by show 9000 + 1371 * s18.toNatClampNeg ≤ 7302250; omega)⟩ dL_law_1610 (fun v155 => ?_)
                                                          refine dn_icmp_eq (pc := 1613) 2426 dL_law_1613 rfl (fun _ => ?_) (fun _ => ?_)
                                                          · refine dn_widen (cells2 := 400 + 128 * s18.toNatClampNeg + 128) (slots2 := 9000 + 1371 * s18.toNatClampNeg + 1371) (by show 400 + 128 * s18.toNatClampNeg ≤ 400 + 128 * s18.toNatClampNeg + 128; omega) (by show 9000 + 1371 * s18.toNatClampNeg ≤ 9000 + 1371 * s18.toNatClampNeg + 1371; omega) ?_
                                                            exact dn_lv [0, 1, 2, 3] rfl (hj2426 hle18)
                                                          · refine dn_iconst (pc := 1616) (v := 0) dL_law_1616 rfl ?_
                                                            refine dn_leaf ?_
                                                            refine dn_widen (cells2 := 600000) (slots2 := 7302250) (by show 400 + 128 * s18.toNatClampNeg ≤ 600000; omega) (by show 9000 + 1371 * s18.toNatClampNeg ≤ 7302250; omega) ?_
                                                            exact hR18 false _ _ _ rfl dL_law_1617
                                                        · refine dn_tcase (pc := 33) 26 1618 dL_law_33 (by decide) (by decide) rfl rfl (fun _ => ?_) (fun n33_26 => ?_)
                                                          · refine dn_aload_n (pc := 1618) v1 1 dL_law_1618 rfl ?_
                                                            refine dn_aloadX_n (pc := 1619) 0 dL_law_1619 rfl ?_
                                                            refine dn_iload_n (pc := 1620) 3 dL_law_1620 rfl ?_
                                                            refine dn_iconst (pc := 1621) (v := 1) dL_law_1621 rfl ?_
                                                            refine dn_iadd (pc := 1622) dL_law_1622 ?_
                                                            refine dn_sald (pc := 1623) dL_law_1623 (fun v140 => ?_)
                                                            refine dn_aloadX_n (pc := 1624) 0 dL_law_1624 rfl ?_
                                                            refine dn_iload_n (pc := 1625) 3 dL_law_1625 rfl ?_
                                                            refine dn_iconst (pc := 1626) (v := 2) dL_law_1626 rfl ?_
                                                            refine dn_iadd (pc := 1627) dL_law_1627 ?_
                                                            refine dn_sald (pc := 1628) dL_law_1628 (fun v141 => ?_)
                                                            refine dn_callV0I (pc := 1629) [.int v140, .int v141] v1 kRL_127 (mX12_turn w x b v1 v140 v141) rfl rfl (Nat.le_of_ble_eq_true rfl) ⟨(Nat.le_of_ble_eq_true rfl), (Nat.le_of_ble_eq_true rfl)⟩ ⟨rfl, rfl, (by show 400 + 128 * s18.toNatClampNeg ≤ 600000; omega), (by show 9000 + 1371 * s18.toNatClampNeg ≤ 7302250; omega)⟩ dL_law_1629 (fun v142 => ?_)
                                                            refine dn_aload_n (pc := 1632) v3 2 dL_law_1632 rfl ?_
                                                            refine dn_aloadX_n (pc := 1633) 0 dL_law_1633 rfl ?_
                                                            refine dn_iload_n (pc := 1634) 3 dL_law_1634 rfl ?_
                                                            refine dn_iconst (pc := 1635) (v := 1) dL_law_1635 rfl ?_
                                                            refine dn_iadd (pc := 1636) dL_law_1636 ?_
                                                            refine dn_sald (pc := 1637) dL_law_1637 (fun v143 => ?_)
                                                            refine dn_aloadX_n (pc := 1638) 0 dL_law_1638 rfl ?_
                                                            refine dn_iload_n (pc := 1639) 3 dL_law_1639 rfl ?_
                                                            refine dn_iconst (pc := 1640) (v := 2) dL_law_1640 rfl ?_
                                                            refine dn_iadd (pc := 1641) dL_law_1641 ?_
                                                            refine dn_sald (pc := 1642) dL_law_1642 (fun v144 => ?_)
                                                            refine dn_callV0I (pc := 1643) [.int v143, .int v144] v3 kRL_130 (mX13_turn w x b v3 v143 v144) rfl rfl (Nat.le_of_ble_eq_true rfl) ⟨(Nat.le_of_ble_eq_true rfl), (Nat.le_of_ble_eq_true rfl)⟩ ⟨rfl, rfl, (by show 400 + 128 * s18.toNatClampNeg ≤ 600000; omega), (by show 9000 + 1371 * s18.toNatClampNeg ≤ 7302250; omega)⟩ dL_law_1643 (fun v145 => ?_)
                                                            refine dn_icmp_eq (pc := 1646) 2426 dL_law_1646 rfl (fun _ => ?_) (fun _ => ?_)
                                                            · refine dn_widen (cells2 := 400 + 128 * s18.toNatClampNeg + 128) (slots2 := 9000 + 1371 * s18.toNatClampNeg + 1371) (by show 400 + 128 * s18.toNatClampNeg ≤ 400 + 128 * s18.toNatClampNeg + 128; omega) (by show 9000 + 1371 * s18.toNatClampNeg ≤ 9000 + 1371 * s18.toNatClampNeg + 1371; omega) ?_
                                                              exact dn_lv [0, 1, 2, 3] rfl (hj2426 hle18)
                                                            · refine dn_iconst (pc := 1649) (v := 0) dL_law_1649 rfl ?_
                                                              refine dn_leaf ?_
                                                              refine dn_widen (cells2 := 600000) (slots2 := 7302250) (by show 400 + 128 * s18.toNatClampNeg ≤ 600000; omega) (by show 9000 + 1371 * s18.toNatClampNeg ≤ 7302250; omega) ?_
                                                              exact hR18 false _ _ _ rfl dL_law_1650
                                                          · refine dn_tcase (pc := 33) 27 1651 dL_law_33 (by decide) (by decide) rfl rfl (fun _ => ?_) (fun n33_27 => ?_)
                                                            · refine dn_aload_n (pc := 1651) v1 1 dL_law_1651 rfl ?_
                                                              refine dn_aloadX_n (pc := 1652) 0 dL_law_1652 rfl ?_
                                                              refine dn_iload_n (pc := 1653) 3 dL_law_1653 rfl ?_
                                                              refine dn_iconst (pc := 1654) (v := 1) dL_law_1654 rfl ?_
                                                              refine dn_iadd (pc := 1655) dL_law_1655 ?_
                                                              refine dn_sald (pc := 1656) dL_law_1656 (fun v132 => ?_)
                                                              refine dn_aloadX_n (pc := 1657) 0 dL_law_1657 rfl ?_
                                                              refine dn_iload_n (pc := 1658) 3 dL_law_1658 rfl ?_
                                                              refine dn_iconst (pc := 1659) (v := 2) dL_law_1659 rfl ?_
                                                              refine dn_iadd (pc := 1660) dL_law_1660 ?_
                                                              refine dn_sald (pc := 1661) dL_law_1661 (fun v133 => ?_)
                                                              refine dn_aloadX_n (pc := 1662) 0 dL_law_1662 rfl ?_
                                                              refine dn_iload_n (pc := 1663) 3 dL_law_1663 rfl ?_
                                                              refine dn_iconst (pc := 1664) (v := 3) dL_law_1664 rfl ?_
                                                              refine dn_iadd (pc := 1665) dL_law_1665 ?_
                                                              refine dn_sald (pc := 1666) dL_law_1666 (fun v134 => ?_)
                                                              refine dn_callV0I (pc := 1667) [.int v132, .int v133, .int v134] v1 kRL_131 (mX12_times w x b v1 v132 v133 v134) rfl rfl (Nat.le_of_ble_eq_true rfl) ⟨(Nat.le_of_ble_eq_true rfl), (Nat.le_of_ble_eq_true rfl)⟩ ⟨rfl, rfl, (by show 400 + 128 * s18.toNatClampNeg ≤ 600000; omega), (by show 9000 + 1371 * s18.toNatClampNeg ≤ 7302250; omega)⟩ dL_law_1667 (fun v135 => ?_)
                                                              refine dn_aload_n (pc := 1670) v3 2 dL_law_1670 rfl ?_
                                                              refine dn_aloadX_n (pc := 1671) 0 dL_law_1671 rfl ?_
                                                              refine dn_iload_n (pc := 1672) 3 dL_law_1672 rfl ?_
                                                              refine dn_iconst (pc := 1673) (v := 1) dL_law_1673 rfl ?_
                                                              refine dn_iadd (pc := 1674) dL_law_1674 ?_
                                                              refine dn_sald (pc := 1675) dL_law_1675 (fun v136 => ?_)
                                                              refine dn_aloadX_n (pc := 1676) 0 dL_law_1676 rfl ?_
                                                              refine dn_iload_n (pc := 1677) 3 dL_law_1677 rfl ?_
                                                              refine dn_iconst (pc := 1678) (v := 2) dL_law_1678 rfl ?_
                                                              refine dn_iadd (pc := 1679) dL_law_1679 ?_
                                                              refine dn_sald (pc := 1680) dL_law_1680 (fun v137 => ?_)
                                                              refine dn_aloadX_n (pc := 1681) 0 dL_law_1681 rfl ?_
                                                              refine dn_iload_n (pc := 1682) 3 dL_law_1682 rfl ?_
                                                              refine dn_iconst (pc := 1683) (v := 3) dL_law_1683 rfl ?_
                                                              refine dn_iadd (pc := 1684) dL_law_1684 ?_
                                                              refine dn_sald (pc := 1685) dL_law_1685 (fun v138 => ?_)
                                                              refine dn_callV0I (pc := 1686) [.int v136, .int v137, .int v138] v3 kRL_134 (mX13_times w x b v3 v136 v137 v138) rfl rfl (Nat.le_of_ble_eq_true rfl) ⟨(Nat.le_of_ble_eq_true rfl), (Nat.le_of_ble_eq_true rfl)⟩ ⟨rfl, rfl, (by show 400 + 128 * s18.toNatClampNeg ≤ 600000; omega), (by show 9000 + 1371 * s18.toNatClampNeg ≤ 7302250; omega)⟩ dL_law_1686 (fun v139 => ?_)
                                                              refine dn_icmp_eq (pc := 1689) 2426 dL_law_1689 rfl (fun _ => ?_) (fun _ => ?_)
                                                              · refine dn_widen (cells2 := 400 + 128 * s18.toNatClampNeg + 128) (slots2 := 9000 + 1371 * s18.toNatClampNeg + 1371) (by show 400 + 128 * s18.toNatClampNeg ≤ 400 + 128 * s18.toNatClampNeg + 128; omega) (by show 9000 + 1371 * s18.toNatClampNeg ≤ 9000 + 1371 * s18.toNatClampNeg + 1371; omega) ?_
                                                                exact dn_lv [0, 1, 2, 3] rfl (hj2426 hle18)
                                                              · refine dn_iconst (pc := 1692) (v := 0) dL_law_1692 rfl ?_
                                                                refine dn_leaf ?_
                                                                refine dn_widen (cells2 := 600000) (slots2 := 7302250) (by show 400 + 128 * s18.toNatClampNeg ≤ 600000; omega) (by show 9000 + 1371 * s18.toNatClampNeg ≤ 7302250; omega) ?_
                                                                exact hR18 false _ _ _ rfl dL_law_1693
                                                            · refine dn_tcase (pc := 33) 28 1694 dL_law_33 (by decide) (by decide) rfl rfl (fun _ => ?_) (fun n33_28 => ?_)
                                                              · refine dn_aload_n (pc := 1694) v1 1 dL_law_1694 rfl ?_
                                                                refine dn_aloadX_n (pc := 1695) 0 dL_law_1695 rfl ?_
                                                                refine dn_iload_n (pc := 1696) 3 dL_law_1696 rfl ?_
                                                                refine dn_iconst (pc := 1697) (v := 1) dL_law_1697 rfl ?_
                                                                refine dn_iadd (pc := 1698) dL_law_1698 ?_
                                                                refine dn_sald (pc := 1699) dL_law_1699 (fun v120 => ?_)
                                                                refine dn_aloadX_n (pc := 1700) 0 dL_law_1700 rfl ?_
                                                                refine dn_iload_n (pc := 1701) 3 dL_law_1701 rfl ?_
                                                                refine dn_iconst (pc := 1702) (v := 2) dL_law_1702 rfl ?_
                                                                refine dn_iadd (pc := 1703) dL_law_1703 ?_
                                                                refine dn_sald (pc := 1704) dL_law_1704 (fun v121 => ?_)
                                                                refine dn_aloadX_n (pc := 1705) 0 dL_law_1705 rfl ?_
                                                                refine dn_iload_n (pc := 1706) 3 dL_law_1706 rfl ?_
                                                                refine dn_iconst (pc := 1707) (v := 3) dL_law_1707 rfl ?_
                                                                refine dn_iadd (pc := 1708) dL_law_1708 ?_
                                                                refine dn_sald (pc := 1709) dL_law_1709 (fun v122 => ?_)
                                                                refine dn_aloadX_n (pc := 1710) 0 dL_law_1710 rfl ?_
                                                                refine dn_iload_n (pc := 1711) 3 dL_law_1711 rfl ?_
                                                                refine dn_iconst (pc := 1712) (v := 4) dL_law_1712 rfl ?_
                                                                refine dn_iadd (pc := 1713) dL_law_1713 ?_
                                                                refine dn_sald (pc := 1714) dL_law_1714 (fun v123 => ?_)
                                                                refine dn_aloadX_n (pc := 1715) 0 dL_law_1715 rfl ?_
                                                                refine dn_iload_n (pc := 1716) 3 dL_law_1716 rfl ?_
                                                                refine dn_iconst (pc := 1717) (v := 5) dL_law_1717 rfl ?_
                                                                refine dn_iadd (pc := 1718) dL_law_1718 ?_
                                                                refine dn_sald (pc := 1719) dL_law_1719 (fun v124 => ?_)
                                                                refine dn_callV0I (pc := 1720) [.int v120, .int v121, .int v122, .int v123, .int v124] v1 kRL_135 (mX12_fold w x b v1 v120 v121 v122 v123 v124) rfl rfl (Nat.le_of_ble_eq_true rfl) ⟨(Nat.le_of_ble_eq_true rfl), (Nat.le_of_ble_eq_true rfl)⟩ ⟨rfl, rfl, (by show 400 + 128 * s18.toNatClampNeg ≤ 600000; omega), (by show 9000 + 1371 * s18.toNatClampNeg ≤ 7302250; omega)⟩ dL_law_1720 (fun v125 => ?_)
                                                                refine dn_aload_n (pc := 1723) v3 2 dL_law_1723 rfl ?_
                                                                refine dn_aloadX_n (pc := 1724) 0 dL_law_1724 rfl ?_
                                                                refine dn_iload_n (pc := 1725) 3 dL_law_1725 rfl ?_
                                                                refine dn_iconst (pc := 1726) (v := 1) dL_law_1726 rfl ?_
                                                                refine dn_iadd (pc := 1727) dL_law_1727 ?_
                                                                refine dn_sald (pc := 1728) dL_law_1728 (fun v126 => ?_)
                                                                refine dn_aloadX_n (pc := 1729) 0 dL_law_1729 rfl ?_
                                                                refine dn_iload_n (pc := 1730) 3 dL_law_1730 rfl ?_
                                                                refine dn_iconst (pc := 1731) (v := 2) dL_law_1731 rfl ?_
                                                                refine dn_iadd (pc := 1732) dL_law_1732 ?_
                                                                refine dn_sald (pc := 1733) dL_law_1733 (fun v127 => ?_)
                                                                refine dn_aloadX_n (pc := 1734) 0 dL_law_1734 rfl ?_
                                                                refine dn_iload_n (pc := 1735) 3 dL_law_1735 rfl ?_
                                                                refine dn_iconst (pc := 1736) (v := 3) dL_law_1736 rfl ?_
                                                                refine dn_iadd (pc := 1737) dL_law_1737 ?_
                                                                refine dn_sald (pc := 1738) dL_law_1738 (fun v128 => ?_)
                                                                refine dn_aloadX_n (pc := 1739) 0 dL_law_1739 rfl ?_
                                                                refine dn_iload_n (pc := 1740) 3 dL_law_1740 rfl ?_
                                                                refine dn_iconst (pc := 1741) (v := 4) dL_law_1741 rfl ?_
                                                                refine dn_iadd (pc := 1742) dL_law_1742 ?_
                                                                refine dn_sald (pc := 1743) dL_law_1743 (fun v129 => ?_)
                                                                refine dn_aloadX_n (pc := 1744) 0 dL_law_1744 rfl ?_
                                                                refine dn_iload_n (pc := 1745) 3 dL_law_1745 rfl ?_
                                                                refine dn_iconst (pc := 1746) (v := 5) dL_law_1746 rfl ?_
                                                                refine dn_iadd (pc := 1747) dL_law_1747 ?_
                                                                refine dn_sald (pc := 1748) dL_law_1748 (fun v130 => ?_)
                                                                refine dn_callV0I (pc := 1749) [.int v126, .int v127, .int v128, .int v129, .int v130] v3 kRL_138 (mX13_fold w x b v3 v126 v127 v128 v129 v130) rfl rfl (Nat.le_of_ble_eq_true rfl) ⟨(Nat.le_of_ble_eq_true rfl), (Nat.le_of_ble_eq_true rfl)⟩ ⟨rfl, rfl, (by show 400 + 128 * s18.toNatClampNeg ≤ 600000; omega), (by show 9000 + 1371 * s18.toNatClampNeg ≤ 7302250; omega)⟩ dL_law_1749 (fun v131 => ?_)
                                                                refine dn_icmp_eq (pc := 1752) 2426 dL_law_1752 rfl (fun _ => ?_) (fun _ => ?_)
                                                                · refine dn_widen (cells2 := 400 + 128 * s18.toNatClampNeg + 128) (slots2 := 9000 + 1371 * s18.toNatClampNeg + 1371) (by show 400 + 128 * s18.toNatClampNeg ≤ 400 + 128 * s18.toNatClampNeg + 128; omega) (by show 9000 + 1371 * s18.toNatClampNeg ≤ 9000 + 1371 * s18.toNatClampNeg + 1371; omega) ?_
                                                                  exact dn_lv [0, 1, 2, 3] rfl (hj2426 hle18)
                                                                · refine dn_iconst (pc := 1755) (v := 0) dL_law_1755 rfl ?_
                                                                  refine dn_leaf ?_
                                                                  refine dn_widen (cells2 := 600000) (slots2 := 7302250) (by show 400 + 128 * s18.toNatClampNeg ≤ 600000; omega) (by show 9000 + 1371 * s18.toNatClampNeg ≤ 7302250; omega) ?_
                                                                  exact hR18 false _ _ _ rfl dL_law_1756
                                                              · refine dn_tcase (pc := 33) 29 1757 dL_law_33 (by decide) (by decide) rfl rfl (fun _ => ?_) (fun n33_29 => ?_)
                                                                · refine dn_aload_n (pc := 1757) v1 1 dL_law_1757 rfl ?_
                                                                  refine dn_aloadX_n (pc := 1758) 0 dL_law_1758 rfl ?_
                                                                  refine dn_iload_n (pc := 1759) 3 dL_law_1759 rfl ?_
                                                                  refine dn_iconst (pc := 1760) (v := 1) dL_law_1760 rfl ?_
                                                                  refine dn_iadd (pc := 1761) dL_law_1761 ?_
                                                                  refine dn_sald (pc := 1762) dL_law_1762 (fun v108 => ?_)
                                                                  refine dn_aloadX_n (pc := 1763) 0 dL_law_1763 rfl ?_
                                                                  refine dn_iload_n (pc := 1764) 3 dL_law_1764 rfl ?_
                                                                  refine dn_iconst (pc := 1765) (v := 2) dL_law_1765 rfl ?_
                                                                  refine dn_iadd (pc := 1766) dL_law_1766 ?_
                                                                  refine dn_sald (pc := 1767) dL_law_1767 (fun v109 => ?_)
                                                                  refine dn_aloadX_n (pc := 1768) 0 dL_law_1768 rfl ?_
                                                                  refine dn_iload_n (pc := 1769) 3 dL_law_1769 rfl ?_
                                                                  refine dn_iconst (pc := 1770) (v := 3) dL_law_1770 rfl ?_
                                                                  refine dn_iadd (pc := 1771) dL_law_1771 ?_
                                                                  refine dn_sald (pc := 1772) dL_law_1772 (fun v110 => ?_)
                                                                  refine dn_aloadX_n (pc := 1773) 0 dL_law_1773 rfl ?_
                                                                  refine dn_iload_n (pc := 1774) 3 dL_law_1774 rfl ?_
                                                                  refine dn_iconst (pc := 1775) (v := 4) dL_law_1775 rfl ?_
                                                                  refine dn_iadd (pc := 1776) dL_law_1776 ?_
                                                                  refine dn_sald (pc := 1777) dL_law_1777 (fun v111 => ?_)
                                                                  refine dn_aloadX_n (pc := 1778) 0 dL_law_1778 rfl ?_
                                                                  refine dn_iload_n (pc := 1779) 3 dL_law_1779 rfl ?_
                                                                  refine dn_iconst (pc := 1780) (v := 5) dL_law_1780 rfl ?_
                                                                  refine dn_iadd (pc := 1781) dL_law_1781 ?_
                                                                  refine dn_sald (pc := 1782) dL_law_1782 (fun v112 => ?_)
                                                                  refine dn_callV0I (pc := 1783) [.int v108, .int v109, .int v110, .int v111, .int v112] v1 kRL_139 (mX12_dot w x b v1 v108 v109 v110 v111 v112) rfl rfl (Nat.le_of_ble_eq_true rfl) ⟨(Nat.le_of_ble_eq_true rfl), (Nat.le_of_ble_eq_true rfl)⟩ ⟨rfl, rfl, (by show 400 + 128 * s18.toNatClampNeg ≤ 600000; omega), (by show 9000 + 1371 * s18.toNatClampNeg ≤ 7302250; omega)⟩ dL_law_1783 (fun v113 => ?_)
                                                                  refine dn_aload_n (pc := 1786) v3 2 dL_law_1786 rfl ?_
                                                                  refine dn_aloadX_n (pc := 1787) 0 dL_law_1787 rfl ?_
                                                                  refine dn_iload_n (pc := 1788) 3 dL_law_1788 rfl ?_
                                                                  refine dn_iconst (pc := 1789) (v := 1) dL_law_1789 rfl ?_
                                                                  refine dn_iadd (pc := 1790) dL_law_1790 ?_
                                                                  refine dn_sald (pc := 1791) dL_law_1791 (fun v114 => ?_)
                                                                  refine dn_aloadX_n (pc := 1792) 0 dL_law_1792 rfl ?_
                                                                  refine dn_iload_n (pc := 1793) 3 dL_law_1793 rfl ?_
                                                                  refine dn_iconst (pc := 1794) (v := 2) dL_law_1794 rfl ?_
                                                                  refine dn_iadd (pc := 1795) dL_law_1795 ?_
                                                                  refine dn_sald (pc := 1796) dL_law_1796 (fun v115 => ?_)
                                                                  refine dn_aloadX_n (pc := 1797) 0 dL_law_1797 rfl ?_
                                                                  refine dn_iload_n (pc := 1798) 3 dL_law_1798 rfl ?_
                                                                  refine dn_iconst (pc := 1799) (v := 3) dL_law_1799 rfl ?_
                                                                  refine dn_iadd (pc := 1800) dL_law_1800 ?_
                                                                  refine dn_sald (pc := 1801) dL_law_1801 (fun v116 => ?_)
                                                                  refine dn_aloadX_n (pc := 1802) 0 dL_law_1802 rfl ?_
                                                                  refine dn_iload_n (pc := 1803) 3 dL_law_1803 rfl ?_
                                                                  refine dn_iconst (pc := 1804) (v := 4) dL_law_1804 rfl ?_
                                                                  refine dn_iadd (pc := 1805) dL_law_1805 ?_
                                                                  refine dn_sald (pc := 1806) dL_law_1806 (fun v117 => ?_)
                                                                  refine dn_aloadX_n (pc := 1807) 0 dL_law_1807 rfl ?_
                                                                  refine dn_iload_n (pc := 1808) 3 dL_law_1808 rfl ?_
                                                                  refine dn_iconst (pc := 1809) (v := 5) dL_law_1809 rfl ?_
                                                                  refine dn_iadd (pc := 1810) dL_law_1810 ?_
                                                                  refine dn_sald (pc := 1811) dL_law_1811 (fun v118 => ?_)
                                                                  refine dn_callV0I (pc := 1812) [.int v114, .int v115, .int v116, .int v117, .int v118] v3 kRL_142 (mX13_dot w x b v3 v114 v115 v116 v117 v118) rfl rfl (Nat.le_of_ble_eq_true rfl) ⟨(Nat.le_of_ble_eq_true rfl), (Nat.le_of_ble_eq_true rfl)⟩ ⟨rfl, rfl, (by show 400 + 128 * s18.toNatClampNeg ≤ 600000; omega), (by show 9000 + 1371 * s18.toNatClampNeg ≤ 7302250; omega)⟩ dL_law_1812 (fun v119 => ?_)
                                                                  refine dn_icmp_eq (pc := 1815) 2426 dL_law_1815 rfl (fun _ => ?_) (fun _ => ?_)
                                                                  · refine dn_widen (cells2 := 400 + 128 * s18.toNatClampNeg + 128) (slots2 := 9000 + 1371 * s18.toNatClampNeg + 1371) (by show 400 + 128 * s18.toNatClampNeg ≤ 400 + 128 * s18.toNatClampNeg + 128; omega) (by show 9000 + 1371 * s18.toNatClampNeg ≤ 9000 + 1371 * s18.toNatClampNeg + 1371; omega) ?_
                                                                    exact dn_lv [0, 1, 2, 3] rfl (hj2426 hle18)
                                                                  · refine dn_iconst (pc := 1818) (v := 0) dL_law_1818 rfl ?_
                                                                    refine dn_leaf ?_
                                                                    refine dn_widen (cells2 := 600000) (slots2 := 7302250) (by show 400 + 128 * s18.toNatClampNeg ≤ 600000; omega) (by show 9000 + 1371 * s18.toNatClampNeg ≤ 7302250; omega) ?_
                                                                    exact hR18 false _ _ _ rfl dL_law_1819
                                                                · refine dn_tcase (pc := 33) 30 1820 dL_law_33 (by decide) (by decide) rfl rfl (fun _ => ?_) (fun n33_30 => ?_)
                                                                  · refine dn_aload_n (pc := 1820) v1 1 dL_law_1820 rfl ?_
                                                                    refine dn_aloadX_n (pc := 1821) 0 dL_law_1821 rfl ?_
                                                                    refine dn_iload_n (pc := 1822) 3 dL_law_1822 rfl ?_
                                                                    refine dn_iconst (pc := 1823) (v := 1) dL_law_1823 rfl ?_
                                                                    refine dn_iadd (pc := 1824) dL_law_1824 ?_
                                                                    refine dn_sald (pc := 1825) dL_law_1825 (fun v104 => ?_)
                                                                    refine dn_callV0I (pc := 1826) [.int v104] v1 kRL_143 (mX12_trail w x b v1 v104) rfl rfl (Nat.le_of_ble_eq_true rfl) ⟨(Nat.le_of_ble_eq_true rfl), (Nat.le_of_ble_eq_true rfl)⟩ ⟨rfl, rfl, (by show 400 + 128 * s18.toNatClampNeg ≤ 600000; omega), (by show 9000 + 1371 * s18.toNatClampNeg ≤ 7302250; omega)⟩ dL_law_1826 (fun v105 => ?_)
                                                                    refine dn_aload_n (pc := 1829) v3 2 dL_law_1829 rfl ?_
                                                                    refine dn_aloadX_n (pc := 1830) 0 dL_law_1830 rfl ?_
                                                                    refine dn_iload_n (pc := 1831) 3 dL_law_1831 rfl ?_
                                                                    refine dn_iconst (pc := 1832) (v := 1) dL_law_1832 rfl ?_
                                                                    refine dn_iadd (pc := 1833) dL_law_1833 ?_
                                                                    refine dn_sald (pc := 1834) dL_law_1834 (fun v106 => ?_)
                                                                    refine dn_callV0I (pc := 1835) [.int v106] v3 kRL_146 (mX13_trail w x b v3 v106) rfl rfl (Nat.le_of_ble_eq_true rfl) ⟨(Nat.le_of_ble_eq_true rfl), (Nat.le_of_ble_eq_true rfl)⟩ ⟨rfl, rfl, (by show 400 + 128 * s18.toNatClampNeg ≤ 600000; omega), (by show 9000 + 1371 * s18.toNatClampNeg ≤ 7302250; omega)⟩ dL_law_1835 (fun v107 => ?_)
                                                                    refine dn_icmp_eq (pc := 1838) 2426 dL_law_1838 rfl (fun _ => ?_) (fun _ => ?_)
                                                                    · refine dn_widen (cells2 := 400 + 128 * s18.toNatClampNeg + 128) (slots2 := 9000 + 1371 * s18.toNatClampNeg + 1371) (by show 400 + 128 * s18.toNatClampNeg ≤ 400 + 128 * s18.toNatClampNeg + 128; omega) (by show 9000 + 1371 * s18.toNatClampNeg ≤ 9000 + 1371 * s18.toNatClampNeg + 1371; omega) ?_
                                                                      exact dn_lv [0, 1, 2, 3] rfl (hj2426 hle18)
                                                                    · refine dn_iconst (pc := 1841) (v := 0) dL_law_1841 rfl ?_
                                                                      refine dn_leaf ?_
                                                                      refine dn_widen (cells2 := 600000) (slots2 := 7302250) (by show 400 + 128 * s18.toNatClampNeg ≤ 600000; omega) (by show 9000 + 1371 * s18.toNatClampNeg ≤ 7302250; omega) ?_
                                                                      exact hR18 false _ _ _ rfl dL_law_1842
                                                                  · refine dn_tcase (pc := 33) 31 1843 dL_law_33 (by decide) (by decide) rfl rfl (fun _ => ?_) (fun n33_31 => ?_)
                                                                    · refine dn_aload_n (pc := 1843) v1 1 dL_law_1843 rfl ?_
                                                                      refine dn_aloadX_n (pc := 1844) 0 dL_law_1844 rfl ?_
                                                                      refine dn_iload_n (pc := 1845) 3 dL_law_1845 rfl ?_
                                                                      refine dn_iconst (pc := 1846) (v := 1) dL_law_1846 rfl ?_
                                                                      refine dn_iadd (pc := 1847) dL_law_1847 ?_
                                                                      refine dn_sald (pc := 1848) dL_law_1848 (fun v96 => ?_)
                                                                      refine dn_aloadX_n (pc := 1849) 0 dL_law_1849 rfl ?_
                                                                      refine dn_iload_n (pc := 1850) 3 dL_law_1850 rfl ?_
                                                                      refine dn_iconst (pc := 1851) (v := 2) dL_law_1851 rfl ?_
                                                                      refine dn_iadd (pc := 1852) dL_law_1852 ?_
                                                                      refine dn_sald (pc := 1853) dL_law_1853 (fun v97 => ?_)
                                                                      refine dn_aloadX_n (pc := 1854) 0 dL_law_1854 rfl ?_
                                                                      refine dn_iload_n (pc := 1855) 3 dL_law_1855 rfl ?_
                                                                      refine dn_iconst (pc := 1856) (v := 3) dL_law_1856 rfl ?_
                                                                      refine dn_iadd (pc := 1857) dL_law_1857 ?_
                                                                      refine dn_sald (pc := 1858) dL_law_1858 (fun v98 => ?_)
                                                                      refine dn_callV0I (pc := 1859) [.int v96, .int v97, .int v98] v1 kRL_147 (mX12_patch w x b v1 v96 v97 v98) rfl rfl (Nat.le_of_ble_eq_true rfl) ⟨(Nat.le_of_ble_eq_true rfl), (Nat.le_of_ble_eq_true rfl)⟩ ⟨rfl, rfl, (by show 400 + 128 * s18.toNatClampNeg ≤ 600000; omega), (by show 9000 + 1371 * s18.toNatClampNeg ≤ 7302250; omega)⟩ dL_law_1859 (fun v99 => ?_)
                                                                      refine dn_aload_n (pc := 1862) v3 2 dL_law_1862 rfl ?_
                                                                      refine dn_aloadX_n (pc := 1863) 0 dL_law_1863 rfl ?_
                                                                      refine dn_iload_n (pc := 1864) 3 dL_law_1864 rfl ?_
                                                                      refine dn_iconst (pc := 1865) (v := 1) dL_law_1865 rfl ?_
                                                                      refine dn_iadd (pc := 1866) dL_law_1866 ?_
                                                                      refine dn_sald (pc := 1867) dL_law_1867 (fun v100 => ?_)
                                                                      refine dn_aloadX_n (pc := 1868) 0 dL_law_1868 rfl ?_
                                                                      refine dn_iload_n (pc := 1869) 3 dL_law_1869 rfl ?_
                                                                      refine dn_iconst (pc := 1870) (v := 2) dL_law_1870 rfl ?_
                                                                      refine dn_iadd (pc := 1871) dL_law_1871 ?_
                                                                      refine dn_sald (pc := 1872) dL_law_1872 (fun v101 => ?_)
                                                                      refine dn_aloadX_n (pc := 1873) 0 dL_law_1873 rfl ?_
                                                                      refine dn_iload_n (pc := 1874) 3 dL_law_1874 rfl ?_
                                                                      refine dn_iconst (pc := 1875) (v := 3) dL_law_1875 rfl ?_
                                                                      refine dn_iadd (pc := 1876) dL_law_1876 ?_
                                                                      refine dn_sald (pc := 1877) dL_law_1877 (fun v102 => ?_)
                                                                      refine dn_callV0I (pc := 1878) [.int v100, .int v101, .int v102] v3 kRL_150 (mX13_patch w x b v3 v100 v101 v102) rfl rfl (Nat.le_of_ble_eq_true rfl) ⟨(Nat.le_of_ble_eq_true rfl), (Nat.le_of_ble_eq_true rfl)⟩ ⟨rfl, rfl, (by show 400 + 128 * s18.toNatClampNeg ≤ 600000; omega), (by show 9000 + 1371 * s18.toNatClampNeg ≤ 7302250; omega)⟩ dL_law_1878 (fun v103 => ?_)
                                                                      refine dn_icmp_eq (pc := 1881) 2426 dL_law_1881 rfl (fun _ => ?_) (fun _ => ?_)
                                                                      · refine dn_widen (cells2 := 400 + 128 * s18.toNatClampNeg + 128) (slots2 := 9000 + 1371 * s18.toNatClampNeg + 1371) (by show 400 + 128 * s18.toNatClampNeg ≤ 400 + 128 * s18.toNatClampNeg + 128; omega) (by show 9000 + 1371 * s18.toNatClampNeg ≤ 9000 + 1371 * s18.toNatClampNeg + 1371; omega) ?_
                                                                        exact dn_lv [0, 1, 2, 3] rfl (hj2426 hle18)
                                                                      · refine dn_iconst (pc := 1884) (v := 0) dL_law_1884 rfl ?_
                                                                        refine dn_leaf ?_
                                                                        refine dn_widen (cells2 := 600000) (slots2 := 7302250) (by show 400 + 128 * s18.toNatClampNeg ≤ 600000; omega) (by show 9000 + 1371 * s18.toNatClampNeg ≤ 7302250; omega) ?_
                                                                        exact hR18 false _ _ _ rfl dL_law_1885
                                                                    · refine dn_tcase (pc := 33) 32 1886 dL_law_33 (by decide) (by decide) rfl rfl (fun _ => ?_) (fun n33_32 => ?_)
                                                                      · refine dn_aload_n (pc := 1886) v1 1 dL_law_1886 rfl ?_
                                                                        refine dn_aloadX_n (pc := 1887) 0 dL_law_1887 rfl ?_
                                                                        refine dn_iload_n (pc := 1888) 3 dL_law_1888 rfl ?_
                                                                        refine dn_iconst (pc := 1889) (v := 1) dL_law_1889 rfl ?_
                                                                        refine dn_iadd (pc := 1890) dL_law_1890 ?_
                                                                        refine dn_sald (pc := 1891) dL_law_1891 (fun v92 => ?_)
                                                                        refine dn_callV0I (pc := 1892) [.int v92] v1 kRL_151 (mX12_patches w x b v1 v92) rfl rfl (Nat.le_of_ble_eq_true rfl) ⟨(Nat.le_of_ble_eq_true rfl), (Nat.le_of_ble_eq_true rfl)⟩ ⟨rfl, rfl, (by show 400 + 128 * s18.toNatClampNeg ≤ 600000; omega), (by show 9000 + 1371 * s18.toNatClampNeg ≤ 7302250; omega)⟩ dL_law_1892 (fun v93 => ?_)
                                                                        refine dn_aload_n (pc := 1895) v3 2 dL_law_1895 rfl ?_
                                                                        refine dn_aloadX_n (pc := 1896) 0 dL_law_1896 rfl ?_
                                                                        refine dn_iload_n (pc := 1897) 3 dL_law_1897 rfl ?_
                                                                        refine dn_iconst (pc := 1898) (v := 1) dL_law_1898 rfl ?_
                                                                        refine dn_iadd (pc := 1899) dL_law_1899 ?_
                                                                        refine dn_sald (pc := 1900) dL_law_1900 (fun v94 => ?_)
                                                                        refine dn_callV0I (pc := 1901) [.int v94] v3 kRL_154 (mX13_patches w x b v3 v94) rfl rfl (Nat.le_of_ble_eq_true rfl) ⟨(Nat.le_of_ble_eq_true rfl), (Nat.le_of_ble_eq_true rfl)⟩ ⟨rfl, rfl, (by show 400 + 128 * s18.toNatClampNeg ≤ 600000; omega), (by show 9000 + 1371 * s18.toNatClampNeg ≤ 7302250; omega)⟩ dL_law_1901 (fun v95 => ?_)
                                                                        refine dn_icmp_eq (pc := 1904) 2426 dL_law_1904 rfl (fun _ => ?_) (fun _ => ?_)
                                                                        · refine dn_widen (cells2 := 400 + 128 * s18.toNatClampNeg + 128) (slots2 := 9000 + 1371 * s18.toNatClampNeg + 1371) (by show 400 + 128 * s18.toNatClampNeg ≤ 400 + 128 * s18.toNatClampNeg + 128; omega) (by show 9000 + 1371 * s18.toNatClampNeg ≤ 9000 + 1371 * s18.toNatClampNeg + 1371; omega) ?_
                                                                          exact dn_lv [0, 1, 2, 3] rfl (hj2426 hle18)
                                                                        · refine dn_iconst (pc := 1907) (v := 0) dL_law_1907 rfl ?_
                                                                          refine dn_leaf ?_
                                                                          refine dn_widen (cells2 := 600000) (slots2 := 7302250) (by show 400 + 128 * s18.toNatClampNeg ≤ 600000; omega) (by show 9000 + 1371 * s18.toNatClampNeg ≤ 7302250; omega) ?_
                                                                          exact hR18 false _ _ _ rfl dL_law_1908
                                                                      · refine dn_tcase (pc := 33) 33 1909 dL_law_33 (by decide) (by decide) rfl rfl (fun _ => ?_) (fun n33_33 => ?_)
                                                                        · refine dn_aload_n (pc := 1909) v1 1 dL_law_1909 rfl ?_
                                                                          refine dn_aloadX_n (pc := 1910) 0 dL_law_1910 rfl ?_
                                                                          refine dn_iload_n (pc := 1911) 3 dL_law_1911 rfl ?_
                                                                          refine dn_iconst (pc := 1912) (v := 1) dL_law_1912 rfl ?_
                                                                          refine dn_iadd (pc := 1913) dL_law_1913 ?_
                                                                          refine dn_sald (pc := 1914) dL_law_1914 (fun v78 => ?_)
                                                                          refine dn_aloadX_n (pc := 1915) 0 dL_law_1915 rfl ?_
                                                                          refine dn_iload_n (pc := 1916) 3 dL_law_1916 rfl ?_
                                                                          refine dn_iconst (pc := 1917) (v := 2) dL_law_1917 rfl ?_
                                                                          refine dn_iadd (pc := 1918) dL_law_1918 ?_
                                                                          refine dn_sald (pc := 1919) dL_law_1919 (fun v79 => ?_)
                                                                          refine dn_aloadX_n (pc := 1920) 0 dL_law_1920 rfl ?_
                                                                          refine dn_iload_n (pc := 1921) 3 dL_law_1921 rfl ?_
                                                                          refine dn_iconst (pc := 1922) (v := 3) dL_law_1922 rfl ?_
                                                                          refine dn_iadd (pc := 1923) dL_law_1923 ?_
                                                                          refine dn_sald (pc := 1924) dL_law_1924 (fun v80 => ?_)
                                                                          refine dn_aloadX_n (pc := 1925) 0 dL_law_1925 rfl ?_
                                                                          refine dn_iload_n (pc := 1926) 3 dL_law_1926 rfl ?_
                                                                          refine dn_iconst (pc := 1927) (v := 4) dL_law_1927 rfl ?_
                                                                          refine dn_iadd (pc := 1928) dL_law_1928 ?_
                                                                          refine dn_sald (pc := 1929) dL_law_1929 (fun v81 => ?_)
                                                                          refine dn_aloadX_n (pc := 1930) 0 dL_law_1930 rfl ?_
                                                                          refine dn_iload_n (pc := 1931) 3 dL_law_1931 rfl ?_
                                                                          refine dn_iconst (pc := 1932) (v := 5) dL_law_1932 rfl ?_
                                                                          refine dn_iadd (pc := 1933) dL_law_1933 ?_
                                                                          refine dn_sald (pc := 1934) dL_law_1934 (fun v82 => ?_)
                                                                          refine dn_i2l (pc := 1935) dL_law_1935 ?_
                                                                          refine dn_bipush (pc := 1936) (v := 32) dL_law_1936 rfl ?_
                                                                          refine dn_lshl (pc := 1938) dL_law_1938 ?_
                                                                          refine dn_aloadX_n (pc := 1939) 0 dL_law_1939 rfl ?_
                                                                          refine dn_iload_n (pc := 1940) 3 dL_law_1940 rfl ?_
                                                                          refine dn_bipush (pc := 1941) (v := 6) dL_law_1941 rfl ?_
                                                                          refine dn_iadd (pc := 1943) dL_law_1943 ?_
                                                                          refine dn_sald (pc := 1944) dL_law_1944 (fun v83 => ?_)
                                                                          refine dn_i2l (pc := 1945) dL_law_1945 ?_
                                                                          refine dn_ldc2 (pc := 1946) kRL_57 dL_law_1946 ?_
                                                                          refine dn_land (pc := 1949) dL_law_1949 ?_
                                                                          refine dn_lor (pc := 1950) dL_law_1950 ?_
                                                                          refine dn_callV0I (pc := 1951) [.int v78, .int v79, .int v80, .int v81, .long ((((v82 : Int32).toInt64) <<< ((32 : Int32).toInt64 &&& 63)) ||| (((v83 : Int32).toInt64) &&& 4294967295))] v1 kRL_155 (mX12_paint w x b v1 v78 v79 v80 v81 ((((v82 : Int32).toInt64) <<< ((32 : Int32).toInt64 &&& 63)) ||| (((v83 : Int32).toInt64) &&& 4294967295))) rfl rfl (Nat.le_of_ble_eq_true rfl) ⟨(Nat.le_of_ble_eq_true rfl), (Nat.le_of_ble_eq_true rfl)⟩ ⟨rfl, rfl, (by show 400 + 128 * s18.toNatClampNeg ≤ 600000; omega), (by show 9000 + 1371 * s18.toNatClampNeg ≤ 7302250; omega)⟩ dL_law_1951 (fun v84 => ?_)
                                                                          refine dn_aload_n (pc := 1954) v3 2 dL_law_1954 rfl ?_
                                                                          refine dn_aloadX_n (pc := 1955) 0 dL_law_1955 rfl ?_
                                                                          refine dn_iload_n (pc := 1956) 3 dL_law_1956 rfl ?_
                                                                          refine dn_iconst (pc := 1957) (v := 1) dL_law_1957 rfl ?_
                                                                          refine dn_iadd (pc := 1958) dL_law_1958 ?_
                                                                          refine dn_sald (pc := 1959) dL_law_1959 (fun v85 => ?_)
                                                                          refine dn_aloadX_n (pc := 1960) 0 dL_law_1960 rfl ?_
                                                                          refine dn_iload_n (pc := 1961) 3 dL_law_1961 rfl ?_
                                                                          refine dn_iconst (pc := 1962) (v := 2) dL_law_1962 rfl ?_
                                                                          refine dn_iadd (pc := 1963) dL_law_1963 ?_
                                                                          refine dn_sald (pc := 1964) dL_law_1964 (fun v86 => ?_)
                                                                          refine dn_aloadX_n (pc := 1965) 0 dL_law_1965 rfl ?_
                                                                          refine dn_iload_n (pc := 1966) 3 dL_law_1966 rfl ?_
                                                                          refine dn_iconst (pc := 1967) (v := 3) dL_law_1967 rfl ?_
                                                                          refine dn_iadd (pc := 1968) dL_law_1968 ?_
                                                                          refine dn_sald (pc := 1969) dL_law_1969 (fun v87 => ?_)
                                                                          refine dn_aloadX_n (pc := 1970) 0 dL_law_1970 rfl ?_
                                                                          refine dn_iload_n (pc := 1971) 3 dL_law_1971 rfl ?_
                                                                          refine dn_iconst (pc := 1972) (v := 4) dL_law_1972 rfl ?_
                                                                          refine dn_iadd (pc := 1973) dL_law_1973 ?_
                                                                          refine dn_sald (pc := 1974) dL_law_1974 (fun v88 => ?_)
                                                                          refine dn_aloadX_n (pc := 1975) 0 dL_law_1975 rfl ?_
                                                                          refine dn_iload_n (pc := 1976) 3 dL_law_1976 rfl ?_
                                                                          refine dn_iconst (pc := 1977) (v := 5) dL_law_1977 rfl ?_
                                                                          refine dn_iadd (pc := 1978) dL_law_1978 ?_
                                                                          refine dn_sald (pc := 1979) dL_law_1979 (fun v89 => ?_)
                                                                          refine dn_i2l (pc := 1980) dL_law_1980 ?_
                                                                          refine dn_bipush (pc := 1981) (v := 32) dL_law_1981 rfl ?_
                                                                          refine dn_lshl (pc := 1983) dL_law_1983 ?_
                                                                          refine dn_aloadX_n (pc := 1984) 0 dL_law_1984 rfl ?_
                                                                          refine dn_iload_n (pc := 1985) 3 dL_law_1985 rfl ?_
                                                                          refine dn_bipush (pc := 1986) (v := 6) dL_law_1986 rfl ?_
                                                                          refine dn_iadd (pc := 1988) dL_law_1988 ?_
                                                                          refine dn_sald (pc := 1989) dL_law_1989 (fun v90 => ?_)
                                                                          refine dn_i2l (pc := 1990) dL_law_1990 ?_
                                                                          refine dn_ldc2 (pc := 1991) kRL_57 dL_law_1991 ?_
                                                                          refine dn_land (pc := 1994) dL_law_1994 ?_
                                                                          refine dn_lor (pc := 1995) dL_law_1995 ?_
                                                                          refine dn_callV0I (pc := 1996) [.int v85, .int v86, .int v87, .int v88, .long ((((v89 : Int32).toInt64) <<< ((32 : Int32).toInt64 &&& 63)) ||| (((v90 : Int32).toInt64) &&& 4294967295))] v3 kRL_158 (mX13_paint w x b v3 v85 v86 v87 v88 ((((v89 : Int32).toInt64) <<< ((32 : Int32).toInt64 &&& 63)) ||| (((v90 : Int32).toInt64) &&& 4294967295))) rfl rfl (Nat.le_of_ble_eq_true rfl) ⟨(Nat.le_of_ble_eq_true rfl), (Nat.le_of_ble_eq_true rfl)⟩ ⟨rfl, rfl, (by show 400 + 128 * s18.toNatClampNeg ≤ 600000; omega), (by show 9000 + 1371 * s18.toNatClampNeg ≤ 7302250; omega)⟩ dL_law_1996 (fun v91 => ?_)
                                                                          refine dn_icmp_eq (pc := 1999) 2426 dL_law_1999 rfl (fun _ => ?_) (fun _ => ?_)
                                                                          · refine dn_widen (cells2 := 400 + 128 * s18.toNatClampNeg + 128) (slots2 := 9000 + 1371 * s18.toNatClampNeg + 1371) (by show 400 + 128 * s18.toNatClampNeg ≤ 400 + 128 * s18.toNatClampNeg + 128; omega) (by show 9000 + 1371 * s18.toNatClampNeg ≤ 9000 + 1371 * s18.toNatClampNeg + 1371; omega) ?_
                                                                            exact dn_lv [0, 1, 2, 3] rfl (hj2426 hle18)
                                                                          · refine dn_iconst (pc := 2002) (v := 0) dL_law_2002 rfl ?_
                                                                            refine dn_leaf ?_
                                                                            refine dn_widen (cells2 := 600000) (slots2 := 7302250) (by show 400 + 128 * s18.toNatClampNeg ≤ 600000; omega) (by show 9000 + 1371 * s18.toNatClampNeg ≤ 7302250; omega) ?_
                                                                            exact hR18 false _ _ _ rfl dL_law_2003
                                                                        · refine dn_tcase (pc := 33) 34 2004 dL_law_33 (by decide) (by decide) rfl rfl (fun _ => ?_) (fun n33_34 => ?_)
                                                                          · refine dn_aload_n (pc := 2004) v1 1 dL_law_2004 rfl ?_
                                                                            refine dn_aloadX_n (pc := 2005) 0 dL_law_2005 rfl ?_
                                                                            refine dn_iload_n (pc := 2006) 3 dL_law_2006 rfl ?_
                                                                            refine dn_iconst (pc := 2007) (v := 1) dL_law_2007 rfl ?_
                                                                            refine dn_iadd (pc := 2008) dL_law_2008 ?_
                                                                            refine dn_sald (pc := 2009) dL_law_2009 (fun v74 => ?_)
                                                                            refine dn_callV0I (pc := 2010) [.int v74] v1 kRL_159 (mX12_block w x b v1 v74) rfl rfl (Nat.le_of_ble_eq_true rfl) ⟨(Nat.le_of_ble_eq_true rfl), (Nat.le_of_ble_eq_true rfl)⟩ ⟨rfl, rfl, (by show 400 + 128 * s18.toNatClampNeg ≤ 600000; omega), (by show 9000 + 1371 * s18.toNatClampNeg ≤ 7302250; omega)⟩ dL_law_2010 (fun v75 => ?_)
                                                                            refine dn_aload_n (pc := 2013) v3 2 dL_law_2013 rfl ?_
                                                                            refine dn_aloadX_n (pc := 2014) 0 dL_law_2014 rfl ?_
                                                                            refine dn_iload_n (pc := 2015) 3 dL_law_2015 rfl ?_
                                                                            refine dn_iconst (pc := 2016) (v := 1) dL_law_2016 rfl ?_
                                                                            refine dn_iadd (pc := 2017) dL_law_2017 ?_
                                                                            refine dn_sald (pc := 2018) dL_law_2018 (fun v76 => ?_)
                                                                            refine dn_callV0I (pc := 2019) [.int v76] v3 kRL_162 (mX13_block w x b v3 v76) rfl rfl (Nat.le_of_ble_eq_true rfl) ⟨(Nat.le_of_ble_eq_true rfl), (Nat.le_of_ble_eq_true rfl)⟩ ⟨rfl, rfl, (by show 400 + 128 * s18.toNatClampNeg ≤ 600000; omega), (by show 9000 + 1371 * s18.toNatClampNeg ≤ 7302250; omega)⟩ dL_law_2019 (fun v77 => ?_)
                                                                            refine dn_icmp_eq (pc := 2022) 2426 dL_law_2022 rfl (fun _ => ?_) (fun _ => ?_)
                                                                            · refine dn_widen (cells2 := 400 + 128 * s18.toNatClampNeg + 128) (slots2 := 9000 + 1371 * s18.toNatClampNeg + 1371) (by show 400 + 128 * s18.toNatClampNeg ≤ 400 + 128 * s18.toNatClampNeg + 128; omega) (by show 9000 + 1371 * s18.toNatClampNeg ≤ 9000 + 1371 * s18.toNatClampNeg + 1371; omega) ?_
                                                                              exact dn_lv [0, 1, 2, 3] rfl (hj2426 hle18)
                                                                            · refine dn_iconst (pc := 2025) (v := 0) dL_law_2025 rfl ?_
                                                                              refine dn_leaf ?_
                                                                              refine dn_widen (cells2 := 600000) (slots2 := 7302250) (by show 400 + 128 * s18.toNatClampNeg ≤ 600000; omega) (by show 9000 + 1371 * s18.toNatClampNeg ≤ 7302250; omega) ?_
                                                                              exact hR18 false _ _ _ rfl dL_law_2026
                                                                          · refine dn_tcase (pc := 33) 35 2027 dL_law_33 (by decide) (by decide) rfl rfl (fun _ => ?_) (fun n33_35 => ?_)
                                                                            · refine dn_aload_n (pc := 2027) v1 1 dL_law_2027 rfl ?_
                                                                              refine dn_aloadX_n (pc := 2028) 0 dL_law_2028 rfl ?_
                                                                              refine dn_iload_n (pc := 2029) 3 dL_law_2029 rfl ?_
                                                                              refine dn_iconst (pc := 2030) (v := 1) dL_law_2030 rfl ?_
                                                                              refine dn_iadd (pc := 2031) dL_law_2031 ?_
                                                                              refine dn_sald (pc := 2032) dL_law_2032 (fun v66 => ?_)
                                                                              refine dn_aloadX_n (pc := 2033) 0 dL_law_2033 rfl ?_
                                                                              refine dn_iload_n (pc := 2034) 3 dL_law_2034 rfl ?_
                                                                              refine dn_iconst (pc := 2035) (v := 2) dL_law_2035 rfl ?_
                                                                              refine dn_iadd (pc := 2036) dL_law_2036 ?_
                                                                              refine dn_sald (pc := 2037) dL_law_2037 (fun v67 => ?_)
                                                                              refine dn_aloadX_n (pc := 2038) 0 dL_law_2038 rfl ?_
                                                                              refine dn_iload_n (pc := 2039) 3 dL_law_2039 rfl ?_
                                                                              refine dn_iconst (pc := 2040) (v := 3) dL_law_2040 rfl ?_
                                                                              refine dn_iadd (pc := 2041) dL_law_2041 ?_
                                                                              refine dn_sald (pc := 2042) dL_law_2042 (fun v68 => ?_)
                                                                              refine dn_callV0I (pc := 2043) [.int v66, .int v67, .int v68] v1 kRL_163 (mX12_lies w x b v1 v66 v67 v68) rfl rfl (Nat.le_of_ble_eq_true rfl) ⟨(Nat.le_of_ble_eq_true rfl), (Nat.le_of_ble_eq_true rfl)⟩ ⟨rfl, rfl, (by show 400 + 128 * s18.toNatClampNeg ≤ 600000; omega), (by show 9000 + 1371 * s18.toNatClampNeg ≤ 7302250; omega)⟩ dL_law_2043 (fun v69 => ?_)
                                                                              refine dn_aload_n (pc := 2046) v3 2 dL_law_2046 rfl ?_
                                                                              refine dn_aloadX_n (pc := 2047) 0 dL_law_2047 rfl ?_
                                                                              refine dn_iload_n (pc := 2048) 3 dL_law_2048 rfl ?_
                                                                              refine dn_iconst (pc := 2049) (v := 1) dL_law_2049 rfl ?_
                                                                              refine dn_iadd (pc := 2050) dL_law_2050 ?_
                                                                              refine dn_sald (pc := 2051) dL_law_2051 (fun v70 => ?_)
                                                                              refine dn_aloadX_n (pc := 2052) 0 dL_law_2052 rfl ?_
                                                                              refine dn_iload_n (pc := 2053) 3 dL_law_2053 rfl ?_
                                                                              refine dn_iconst (pc := 2054) (v := 2) dL_law_2054 rfl ?_
                                                                              refine dn_iadd (pc := 2055) dL_law_2055 ?_
                                                                              refine dn_sald (pc := 2056) dL_law_2056 (fun v71 => ?_)
                                                                              refine dn_aloadX_n (pc := 2057) 0 dL_law_2057 rfl ?_
                                                                              refine dn_iload_n (pc := 2058) 3 dL_law_2058 rfl ?_
                                                                              refine dn_iconst (pc := 2059) (v := 3) dL_law_2059 rfl ?_
                                                                              refine dn_iadd (pc := 2060) dL_law_2060 ?_
                                                                              refine dn_sald (pc := 2061) dL_law_2061 (fun v72 => ?_)
                                                                              refine dn_callV0I (pc := 2062) [.int v70, .int v71, .int v72] v3 kRL_166 (mX13_lies w x b v3 v70 v71 v72) rfl rfl (Nat.le_of_ble_eq_true rfl) ⟨(Nat.le_of_ble_eq_true rfl), (Nat.le_of_ble_eq_true rfl)⟩ ⟨rfl, rfl, (by show 400 + 128 * s18.toNatClampNeg ≤ 600000; omega), (by show 9000 + 1371 * s18.toNatClampNeg ≤ 7302250; omega)⟩ dL_law_2062 (fun v73 => ?_)
                                                                              refine dn_icmp_eq (pc := 2065) 2426 dL_law_2065 rfl (fun _ => ?_) (fun _ => ?_)
                                                                              · refine dn_widen (cells2 := 400 + 128 * s18.toNatClampNeg + 128) (slots2 := 9000 + 1371 * s18.toNatClampNeg + 1371) (by show 400 + 128 * s18.toNatClampNeg ≤ 400 + 128 * s18.toNatClampNeg + 128; omega) (by show 9000 + 1371 * s18.toNatClampNeg ≤ 9000 + 1371 * s18.toNatClampNeg + 1371; omega) ?_
                                                                                exact dn_lv [0, 1, 2, 3] rfl (hj2426 hle18)
                                                                              · refine dn_iconst (pc := 2068) (v := 0) dL_law_2068 rfl ?_
                                                                                refine dn_leaf ?_
                                                                                refine dn_widen (cells2 := 600000) (slots2 := 7302250) (by show 400 + 128 * s18.toNatClampNeg ≤ 600000; omega) (by show 9000 + 1371 * s18.toNatClampNeg ≤ 7302250; omega) ?_
                                                                                exact hR18 false _ _ _ rfl dL_law_2069
                                                                            · refine dn_tcase (pc := 33) 36 2070 dL_law_33 (by decide) (by decide) rfl rfl (fun _ => ?_) (fun n33_36 => ?_)
                                                                              · refine dn_aload_n (pc := 2070) v1 1 dL_law_2070 rfl ?_
                                                                                refine dn_aloadX_n (pc := 2071) 0 dL_law_2071 rfl ?_
                                                                                refine dn_iload_n (pc := 2072) 3 dL_law_2072 rfl ?_
                                                                                refine dn_iconst (pc := 2073) (v := 1) dL_law_2073 rfl ?_
                                                                                refine dn_iadd (pc := 2074) dL_law_2074 ?_
                                                                                refine dn_sald (pc := 2075) dL_law_2075 (fun v62 => ?_)
                                                                                refine dn_callV0I (pc := 2076) [.int v62] v1 kRL_167 (mX12_type w x b v1 v62) rfl rfl (Nat.le_of_ble_eq_true rfl) ⟨(Nat.le_of_ble_eq_true rfl), (Nat.le_of_ble_eq_true rfl)⟩ ⟨rfl, rfl, (by show 400 + 128 * s18.toNatClampNeg ≤ 600000; omega), (by show 9000 + 1371 * s18.toNatClampNeg ≤ 7302250; omega)⟩ dL_law_2076 (fun v63 => ?_)
                                                                                refine dn_aload_n (pc := 2079) v3 2 dL_law_2079 rfl ?_
                                                                                refine dn_aloadX_n (pc := 2080) 0 dL_law_2080 rfl ?_
                                                                                refine dn_iload_n (pc := 2081) 3 dL_law_2081 rfl ?_
                                                                                refine dn_iconst (pc := 2082) (v := 1) dL_law_2082 rfl ?_
                                                                                refine dn_iadd (pc := 2083) dL_law_2083 ?_
                                                                                refine dn_sald (pc := 2084) dL_law_2084 (fun v64 => ?_)
                                                                                refine dn_callV0I (pc := 2085) [.int v64] v3 kRL_170 (mX13_type w x b v3 v64) rfl rfl (Nat.le_of_ble_eq_true rfl) ⟨(Nat.le_of_ble_eq_true rfl), (Nat.le_of_ble_eq_true rfl)⟩ ⟨rfl, rfl, (by show 400 + 128 * s18.toNatClampNeg ≤ 600000; omega), (by show 9000 + 1371 * s18.toNatClampNeg ≤ 7302250; omega)⟩ dL_law_2085 (fun v65 => ?_)
                                                                                refine dn_icmp_eq (pc := 2088) 2426 dL_law_2088 rfl (fun _ => ?_) (fun _ => ?_)
                                                                                · refine dn_widen (cells2 := 400 + 128 * s18.toNatClampNeg + 128) (slots2 := 9000 + 1371 * s18.toNatClampNeg + 1371) (by show 400 + 128 * s18.toNatClampNeg ≤ 400 + 128 * s18.toNatClampNeg + 128; omega) (by show 9000 + 1371 * s18.toNatClampNeg ≤ 9000 + 1371 * s18.toNatClampNeg + 1371; omega) ?_
                                                                                  exact dn_lv [0, 1, 2, 3] rfl (hj2426 hle18)
                                                                                · refine dn_iconst (pc := 2091) (v := 0) dL_law_2091 rfl ?_
                                                                                  refine dn_leaf ?_
                                                                                  refine dn_widen (cells2 := 600000) (slots2 := 7302250) (by show 400 + 128 * s18.toNatClampNeg ≤ 600000; omega) (by show 9000 + 1371 * s18.toNatClampNeg ≤ 7302250; omega) ?_
                                                                                  exact hR18 false _ _ _ rfl dL_law_2092
                                                                              · refine dn_tcase (pc := 33) 37 2093 dL_law_33 (by decide) (by decide) rfl rfl (fun _ => ?_) (fun n33_37 => ?_)
                                                                                · refine dn_aload_n (pc := 2093) v1 1 dL_law_2093 rfl ?_
                                                                                  refine dn_callV0I (pc := 2094) [] v1 kRL_171 (mX12_clear w x b v1) rfl rfl (Nat.le_of_ble_eq_true rfl) ⟨(Nat.le_of_ble_eq_true rfl), (Nat.le_of_ble_eq_true rfl)⟩ ⟨rfl, rfl, (by show 400 + 128 * s18.toNatClampNeg ≤ 600000; omega), (by show 9000 + 1371 * s18.toNatClampNeg ≤ 7302250; omega)⟩ dL_law_2094 (fun v60 => ?_)
                                                                                  refine dn_aload_n (pc := 2097) v3 2 dL_law_2097 rfl ?_
                                                                                  refine dn_callV0I (pc := 2098) [] v3 kRL_175 (mX13_clear w x b v3) rfl rfl (Nat.le_of_ble_eq_true rfl) ⟨(Nat.le_of_ble_eq_true rfl), (Nat.le_of_ble_eq_true rfl)⟩ ⟨rfl, rfl, (by show 400 + 128 * s18.toNatClampNeg ≤ 600000; omega), (by show 9000 + 1371 * s18.toNatClampNeg ≤ 7302250; omega)⟩ dL_law_2098 (fun v61 => ?_)
                                                                                  refine dn_icmp_eq (pc := 2101) 2426 dL_law_2101 rfl (fun _ => ?_) (fun _ => ?_)
                                                                                  · refine dn_widen (cells2 := 400 + 128 * s18.toNatClampNeg + 128) (slots2 := 9000 + 1371 * s18.toNatClampNeg + 1371) (by show 400 + 128 * s18.toNatClampNeg ≤ 400 + 128 * s18.toNatClampNeg + 128; omega) (by show 9000 + 1371 * s18.toNatClampNeg ≤ 9000 + 1371 * s18.toNatClampNeg + 1371; omega) ?_
                                                                                    exact dn_lv [0, 1, 2, 3] rfl (hj2426 hle18)
                                                                                  · refine dn_iconst (pc := 2104) (v := 0) dL_law_2104 rfl ?_
                                                                                    refine dn_leaf ?_
                                                                                    refine dn_widen (cells2 := 600000) (slots2 := 7302250) (by show 400 + 128 * s18.toNatClampNeg ≤ 600000; omega) (by show 9000 + 1371 * s18.toNatClampNeg ≤ 7302250; omega) ?_
                                                                                    exact hR18 false _ _ _ rfl dL_law_2105
                                                                                · refine dn_tcase (pc := 33) 38 2106 dL_law_33 (by decide) (by decide) rfl rfl (fun _ => ?_) (fun n33_38 => ?_)
                                                                                  · refine dn_aload_n (pc := 2106) v1 1 dL_law_2106 rfl ?_
                                                                                    refine dn_callV0I (pc := 2107) [] v1 kRL_176 (mX12_plan w x b v1) rfl rfl (Nat.le_of_ble_eq_true rfl) ⟨(Nat.le_of_ble_eq_true rfl), (Nat.le_of_ble_eq_true rfl)⟩ ⟨rfl, rfl, (by show 400 + 128 * s18.toNatClampNeg ≤ 600000; omega), (by show 9000 + 1371 * s18.toNatClampNeg ≤ 7302250; omega)⟩ dL_law_2107 (fun v58 => ?_)
                                                                                    refine dn_aload_n (pc := 2110) v3 2 dL_law_2110 rfl ?_
                                                                                    refine dn_callV0I (pc := 2111) [] v3 kRL_179 (mX13_plan w x b v3) rfl rfl (Nat.le_of_ble_eq_true rfl) ⟨(Nat.le_of_ble_eq_true rfl), (Nat.le_of_ble_eq_true rfl)⟩ ⟨rfl, rfl, (by show 400 + 128 * s18.toNatClampNeg ≤ 600000; omega), (by show 9000 + 1371 * s18.toNatClampNeg ≤ 7302250; omega)⟩ dL_law_2111 (fun v59 => ?_)
                                                                                    refine dn_icmp_eq (pc := 2114) 2426 dL_law_2114 rfl (fun _ => ?_) (fun _ => ?_)
                                                                                    · refine dn_widen (cells2 := 400 + 128 * s18.toNatClampNeg + 128) (slots2 := 9000 + 1371 * s18.toNatClampNeg + 1371) (by show 400 + 128 * s18.toNatClampNeg ≤ 400 + 128 * s18.toNatClampNeg + 128; omega) (by show 9000 + 1371 * s18.toNatClampNeg ≤ 9000 + 1371 * s18.toNatClampNeg + 1371; omega) ?_
                                                                                      exact dn_lv [0, 1, 2, 3] rfl (hj2426 hle18)
                                                                                    · refine dn_iconst (pc := 2117) (v := 0) dL_law_2117 rfl ?_
                                                                                      refine dn_leaf ?_
                                                                                      refine dn_widen (cells2 := 600000) (slots2 := 7302250) (by show 400 + 128 * s18.toNatClampNeg ≤ 600000; omega) (by show 9000 + 1371 * s18.toNatClampNeg ≤ 7302250; omega) ?_
                                                                                      exact hR18 false _ _ _ rfl dL_law_2118
                                                                                  · refine dn_tcase (pc := 33) 39 2119 dL_law_33 (by decide) (by decide) rfl rfl (fun _ => ?_) (fun n33_39 => ?_)
                                                                                    · refine dn_aload_n (pc := 2119) v1 1 dL_law_2119 rfl ?_
                                                                                      refine dn_aloadX_n (pc := 2120) 0 dL_law_2120 rfl ?_
                                                                                      refine dn_iload_n (pc := 2121) 3 dL_law_2121 rfl ?_
                                                                                      refine dn_iconst (pc := 2122) (v := 1) dL_law_2122 rfl ?_
                                                                                      refine dn_iadd (pc := 2123) dL_law_2123 ?_
                                                                                      refine dn_sald (pc := 2124) dL_law_2124 (fun v52 => ?_)
                                                                                      refine dn_aloadX_n (pc := 2125) 0 dL_law_2125 rfl ?_
                                                                                      refine dn_iload_n (pc := 2126) 3 dL_law_2126 rfl ?_
                                                                                      refine dn_iconst (pc := 2127) (v := 2) dL_law_2127 rfl ?_
                                                                                      refine dn_iadd (pc := 2128) dL_law_2128 ?_
                                                                                      refine dn_sald (pc := 2129) dL_law_2129 (fun v53 => ?_)
                                                                                      refine dn_callV0I (pc := 2130) [.int v52, .int v53] v1 kRL_180 (mX12_least w x b v1 v52 v53) rfl rfl (Nat.le_of_ble_eq_true rfl) ⟨(Nat.le_of_ble_eq_true rfl), (Nat.le_of_ble_eq_true rfl)⟩ ⟨rfl, rfl, (by show 400 + 128 * s18.toNatClampNeg ≤ 600000; omega), (by show 9000 + 1371 * s18.toNatClampNeg ≤ 7302250; omega)⟩ dL_law_2130 (fun v54 => ?_)
                                                                                      refine dn_aload_n (pc := 2133) v3 2 dL_law_2133 rfl ?_
                                                                                      refine dn_aloadX_n (pc := 2134) 0 dL_law_2134 rfl ?_
                                                                                      refine dn_iload_n (pc := 2135) 3 dL_law_2135 rfl ?_
                                                                                      refine dn_iconst (pc := 2136) (v := 1) dL_law_2136 rfl ?_
                                                                                      refine dn_iadd (pc := 2137) dL_law_2137 ?_
                                                                                      refine dn_sald (pc := 2138) dL_law_2138 (fun v55 => ?_)
                                                                                      refine dn_aloadX_n (pc := 2139) 0 dL_law_2139 rfl ?_
                                                                                      refine dn_iload_n (pc := 2140) 3 dL_law_2140 rfl ?_
                                                                                      refine dn_iconst (pc := 2141) (v := 2) dL_law_2141 rfl ?_
                                                                                      refine dn_iadd (pc := 2142) dL_law_2142 ?_
                                                                                      refine dn_sald (pc := 2143) dL_law_2143 (fun v56 => ?_)
                                                                                      refine dn_callV0I (pc := 2144) [.int v55, .int v56] v3 kRL_183 (mX13_least w x b v3 v55 v56) rfl rfl (Nat.le_of_ble_eq_true rfl) ⟨(Nat.le_of_ble_eq_true rfl), (Nat.le_of_ble_eq_true rfl)⟩ ⟨rfl, rfl, (by show 400 + 128 * s18.toNatClampNeg ≤ 600000; omega), (by show 9000 + 1371 * s18.toNatClampNeg ≤ 7302250; omega)⟩ dL_law_2144 (fun v57 => ?_)
                                                                                      refine dn_icmp_eq (pc := 2147) 2426 dL_law_2147 rfl (fun _ => ?_) (fun _ => ?_)
                                                                                      · refine dn_widen (cells2 := 400 + 128 * s18.toNatClampNeg + 128) (slots2 := 9000 + 1371 * s18.toNatClampNeg + 1371) (by show 400 + 128 * s18.toNatClampNeg ≤ 400 + 128 * s18.toNatClampNeg + 128; omega) (by show 9000 + 1371 * s18.toNatClampNeg ≤ 9000 + 1371 * s18.toNatClampNeg + 1371; omega) ?_
                                                                                        exact dn_lv [0, 1, 2, 3] rfl (hj2426 hle18)
                                                                                      · refine dn_iconst (pc := 2150) (v := 0) dL_law_2150 rfl ?_
                                                                                        refine dn_leaf ?_
                                                                                        refine dn_widen (cells2 := 600000) (slots2 := 7302250) (by show 400 + 128 * s18.toNatClampNeg ≤ 600000; omega) (by show 9000 + 1371 * s18.toNatClampNeg ≤ 7302250; omega) ?_
                                                                                        exact hR18 false _ _ _ rfl dL_law_2151
                                                                                    · refine dn_tcase (pc := 33) 40 2152 dL_law_33 (by decide) (by decide) rfl rfl (fun _ => ?_) (fun n33_40 => ?_)
                                                                                      · refine dn_aload_n (pc := 2152) v1 1 dL_law_2152 rfl ?_
                                                                                        refine dn_aloadX_n (pc := 2153) 0 dL_law_2153 rfl ?_
                                                                                        refine dn_iload_n (pc := 2154) 3 dL_law_2154 rfl ?_
                                                                                        refine dn_iconst (pc := 2155) (v := 1) dL_law_2155 rfl ?_
                                                                                        refine dn_iadd (pc := 2156) dL_law_2156 ?_
                                                                                        refine dn_sald (pc := 2157) dL_law_2157 (fun v46 => ?_)
                                                                                        refine dn_aloadX_n (pc := 2158) 0 dL_law_2158 rfl ?_
                                                                                        refine dn_iload_n (pc := 2159) 3 dL_law_2159 rfl ?_
                                                                                        refine dn_iconst (pc := 2160) (v := 2) dL_law_2160 rfl ?_
                                                                                        refine dn_iadd (pc := 2161) dL_law_2161 ?_
                                                                                        refine dn_sald (pc := 2162) dL_law_2162 (fun v47 => ?_)
                                                                                        refine dn_callV0I (pc := 2163) [.int v46, .int v47] v1 kRL_184 (mX12_fits w x b v1 v46 v47) rfl rfl (Nat.le_of_ble_eq_true rfl) ⟨(Nat.le_of_ble_eq_true rfl), (Nat.le_of_ble_eq_true rfl)⟩ ⟨rfl, rfl, (by show 400 + 128 * s18.toNatClampNeg ≤ 600000; omega), (by show 9000 + 1371 * s18.toNatClampNeg ≤ 7302250; omega)⟩ dL_law_2163 (fun v48 => ?_)
                                                                                        refine dn_aload_n (pc := 2166) v3 2 dL_law_2166 rfl ?_
                                                                                        refine dn_aloadX_n (pc := 2167) 0 dL_law_2167 rfl ?_
                                                                                        refine dn_iload_n (pc := 2168) 3 dL_law_2168 rfl ?_
                                                                                        refine dn_iconst (pc := 2169) (v := 1) dL_law_2169 rfl ?_
                                                                                        refine dn_iadd (pc := 2170) dL_law_2170 ?_
                                                                                        refine dn_sald (pc := 2171) dL_law_2171 (fun v49 => ?_)
                                                                                        refine dn_aloadX_n (pc := 2172) 0 dL_law_2172 rfl ?_
                                                                                        refine dn_iload_n (pc := 2173) 3 dL_law_2173 rfl ?_
                                                                                        refine dn_iconst (pc := 2174) (v := 2) dL_law_2174 rfl ?_
                                                                                        refine dn_iadd (pc := 2175) dL_law_2175 ?_
                                                                                        refine dn_sald (pc := 2176) dL_law_2176 (fun v50 => ?_)
                                                                                        refine dn_callV0I (pc := 2177) [.int v49, .int v50] v3 kRL_187 (mX13_fits w x b v3 v49 v50) rfl rfl (Nat.le_of_ble_eq_true rfl) ⟨(Nat.le_of_ble_eq_true rfl), (Nat.le_of_ble_eq_true rfl)⟩ ⟨rfl, rfl, (by show 400 + 128 * s18.toNatClampNeg ≤ 600000; omega), (by show 9000 + 1371 * s18.toNatClampNeg ≤ 7302250; omega)⟩ dL_law_2177 (fun v51 => ?_)
                                                                                        refine dn_icmp_eq (pc := 2180) 2426 dL_law_2180 rfl (fun _ => ?_) (fun _ => ?_)
                                                                                        · refine dn_widen (cells2 := 400 + 128 * s18.toNatClampNeg + 128) (slots2 := 9000 + 1371 * s18.toNatClampNeg + 1371) (by show 400 + 128 * s18.toNatClampNeg ≤ 400 + 128 * s18.toNatClampNeg + 128; omega) (by show 9000 + 1371 * s18.toNatClampNeg ≤ 9000 + 1371 * s18.toNatClampNeg + 1371; omega) ?_
                                                                                          exact dn_lv [0, 1, 2, 3] rfl (hj2426 hle18)
                                                                                        · refine dn_iconst (pc := 2183) (v := 0) dL_law_2183 rfl ?_
                                                                                          refine dn_leaf ?_
                                                                                          refine dn_widen (cells2 := 600000) (slots2 := 7302250) (by show 400 + 128 * s18.toNatClampNeg ≤ 600000; omega) (by show 9000 + 1371 * s18.toNatClampNeg ≤ 7302250; omega) ?_
                                                                                          exact hR18 false _ _ _ rfl dL_law_2184
                                                                                      · refine dn_tcase (pc := 33) 41 2185 dL_law_33 (by decide) (by decide) rfl rfl (fun _ => ?_) (fun n33_41 => ?_)
                                                                                        · refine dn_aload_n (pc := 2185) v1 1 dL_law_2185 rfl ?_
                                                                                          refine dn_aloadX_n (pc := 2186) 0 dL_law_2186 rfl ?_
                                                                                          refine dn_iload_n (pc := 2187) 3 dL_law_2187 rfl ?_
                                                                                          refine dn_iconst (pc := 2188) (v := 1) dL_law_2188 rfl ?_
                                                                                          refine dn_iadd (pc := 2189) dL_law_2189 ?_
                                                                                          refine dn_sald (pc := 2190) dL_law_2190 (fun v40 => ?_)
                                                                                          refine dn_aloadX_n (pc := 2191) 0 dL_law_2191 rfl ?_
                                                                                          refine dn_iload_n (pc := 2192) 3 dL_law_2192 rfl ?_
                                                                                          refine dn_iconst (pc := 2193) (v := 2) dL_law_2193 rfl ?_
                                                                                          refine dn_iadd (pc := 2194) dL_law_2194 ?_
                                                                                          refine dn_sald (pc := 2195) dL_law_2195 (fun v41 => ?_)
                                                                                          refine dn_callV0I (pc := 2196) [.int v40, .int v41] v1 kRL_188 (mX12_sees w x b v1 v40 v41) rfl rfl (Nat.le_of_ble_eq_true rfl) ⟨(Nat.le_of_ble_eq_true rfl), (Nat.le_of_ble_eq_true rfl)⟩ ⟨rfl, rfl, (by show 400 + 128 * s18.toNatClampNeg ≤ 600000; omega), (by show 9000 + 1371 * s18.toNatClampNeg ≤ 7302250; omega)⟩ dL_law_2196 (fun v42 => ?_)
                                                                                          refine dn_aload_n (pc := 2199) v3 2 dL_law_2199 rfl ?_
                                                                                          refine dn_aloadX_n (pc := 2200) 0 dL_law_2200 rfl ?_
                                                                                          refine dn_iload_n (pc := 2201) 3 dL_law_2201 rfl ?_
                                                                                          refine dn_iconst (pc := 2202) (v := 1) dL_law_2202 rfl ?_
                                                                                          refine dn_iadd (pc := 2203) dL_law_2203 ?_
                                                                                          refine dn_sald (pc := 2204) dL_law_2204 (fun v43 => ?_)
                                                                                          refine dn_aloadX_n (pc := 2205) 0 dL_law_2205 rfl ?_
                                                                                          refine dn_iload_n (pc := 2206) 3 dL_law_2206 rfl ?_
                                                                                          refine dn_iconst (pc := 2207) (v := 2) dL_law_2207 rfl ?_
                                                                                          refine dn_iadd (pc := 2208) dL_law_2208 ?_
                                                                                          refine dn_sald (pc := 2209) dL_law_2209 (fun v44 => ?_)
                                                                                          refine dn_callV0I (pc := 2210) [.int v43, .int v44] v3 kRL_191 (mX13_sees w x b v3 v43 v44) rfl rfl (Nat.le_of_ble_eq_true rfl) ⟨(Nat.le_of_ble_eq_true rfl), (Nat.le_of_ble_eq_true rfl)⟩ ⟨rfl, rfl, (by show 400 + 128 * s18.toNatClampNeg ≤ 600000; omega), (by show 9000 + 1371 * s18.toNatClampNeg ≤ 7302250; omega)⟩ dL_law_2210 (fun v45 => ?_)
                                                                                          refine dn_icmp_eq (pc := 2213) 2426 dL_law_2213 rfl (fun _ => ?_) (fun _ => ?_)
                                                                                          · refine dn_widen (cells2 := 400 + 128 * s18.toNatClampNeg + 128) (slots2 := 9000 + 1371 * s18.toNatClampNeg + 1371) (by show 400 + 128 * s18.toNatClampNeg ≤ 400 + 128 * s18.toNatClampNeg + 128; omega) (by show 9000 + 1371 * s18.toNatClampNeg ≤ 9000 + 1371 * s18.toNatClampNeg + 1371; omega) ?_
                                                                                            exact dn_lv [0, 1, 2, 3] rfl (hj2426 hle18)
                                                                                          · refine dn_iconst (pc := 2216) (v := 0) dL_law_2216 rfl ?_
                                                                                            refine dn_leaf ?_
                                                                                            refine dn_widen (cells2 := 600000) (slots2 := 7302250) (by show 400 + 128 * s18.toNatClampNeg ≤ 600000; omega) (by show 9000 + 1371 * s18.toNatClampNeg ≤ 7302250; omega) ?_
                                                                                            exact hR18 false _ _ _ rfl dL_law_2217
                                                                                        · refine dn_tcase (pc := 33) 42 2218 dL_law_33 (by decide) (by decide) rfl rfl (fun _ => ?_) (fun n33_42 => ?_)
                                                                                          · refine dn_aload_n (pc := 2218) v1 1 dL_law_2218 rfl ?_
                                                                                            refine dn_callV0I (pc := 2219) [] v1 kRL_192 (mX12_forget w x b v1) rfl rfl (Nat.le_of_ble_eq_true rfl) ⟨(Nat.le_of_ble_eq_true rfl), (Nat.le_of_ble_eq_true rfl)⟩ ⟨rfl, rfl, (by show 400 + 128 * s18.toNatClampNeg ≤ 600000; omega), (by show 9000 + 1371 * s18.toNatClampNeg ≤ 7302250; omega)⟩ dL_law_2219 (fun v38 => ?_)
                                                                                            refine dn_aload_n (pc := 2222) v3 2 dL_law_2222 rfl ?_
                                                                                            refine dn_callV0I (pc := 2223) [] v3 kRL_195 (mX13_forget w x b v3) rfl rfl (Nat.le_of_ble_eq_true rfl) ⟨(Nat.le_of_ble_eq_true rfl), (Nat.le_of_ble_eq_true rfl)⟩ ⟨rfl, rfl, (by show 400 + 128 * s18.toNatClampNeg ≤ 600000; omega), (by show 9000 + 1371 * s18.toNatClampNeg ≤ 7302250; omega)⟩ dL_law_2223 (fun v39 => ?_)
                                                                                            refine dn_icmp_eq (pc := 2226) 2426 dL_law_2226 rfl (fun _ => ?_) (fun _ => ?_)
                                                                                            · refine dn_widen (cells2 := 400 + 128 * s18.toNatClampNeg + 128) (slots2 := 9000 + 1371 * s18.toNatClampNeg + 1371) (by show 400 + 128 * s18.toNatClampNeg ≤ 400 + 128 * s18.toNatClampNeg + 128; omega) (by show 9000 + 1371 * s18.toNatClampNeg ≤ 9000 + 1371 * s18.toNatClampNeg + 1371; omega) ?_
                                                                                              exact dn_lv [0, 1, 2, 3] rfl (hj2426 hle18)
                                                                                            · refine dn_iconst (pc := 2229) (v := 0) dL_law_2229 rfl ?_
                                                                                              refine dn_leaf ?_
                                                                                              refine dn_widen (cells2 := 600000) (slots2 := 7302250) (by show 400 + 128 * s18.toNatClampNeg ≤ 600000; omega) (by show 9000 + 1371 * s18.toNatClampNeg ≤ 7302250; omega) ?_
                                                                                              exact hR18 false _ _ _ rfl dL_law_2230
                                                                                          · refine dn_tcase (pc := 33) 43 2231 dL_law_33 (by decide) (by decide) rfl rfl (fun _ => ?_) (fun n33_43 => ?_)
                                                                                            · refine dn_aload_n (pc := 2231) v1 1 dL_law_2231 rfl ?_
                                                                                              refine dn_callV0I (pc := 2232) [] v1 kRL_196 (mX12_left w x b v1) rfl rfl (Nat.le_of_ble_eq_true rfl) ⟨(Nat.le_of_ble_eq_true rfl), (Nat.le_of_ble_eq_true rfl)⟩ ⟨rfl, rfl, (by show 400 + 128 * s18.toNatClampNeg ≤ 600000; omega), (by show 9000 + 1371 * s18.toNatClampNeg ≤ 7302250; omega)⟩ dL_law_2232 (fun v36 => ?_)
                                                                                              refine dn_aload_n (pc := 2235) v3 2 dL_law_2235 rfl ?_
                                                                                              refine dn_callV0I (pc := 2236) [] v3 kRL_199 (mX13_left w x b v3) rfl rfl (Nat.le_of_ble_eq_true rfl) ⟨(Nat.le_of_ble_eq_true rfl), (Nat.le_of_ble_eq_true rfl)⟩ ⟨rfl, rfl, (by show 400 + 128 * s18.toNatClampNeg ≤ 600000; omega), (by show 9000 + 1371 * s18.toNatClampNeg ≤ 7302250; omega)⟩ dL_law_2236 (fun v37 => ?_)
                                                                                              refine dn_icmp_eq (pc := 2239) 2426 dL_law_2239 rfl (fun _ => ?_) (fun _ => ?_)
                                                                                              · refine dn_widen (cells2 := 400 + 128 * s18.toNatClampNeg + 128) (slots2 := 9000 + 1371 * s18.toNatClampNeg + 1371) (by show 400 + 128 * s18.toNatClampNeg ≤ 400 + 128 * s18.toNatClampNeg + 128; omega) (by show 9000 + 1371 * s18.toNatClampNeg ≤ 9000 + 1371 * s18.toNatClampNeg + 1371; omega) ?_
                                                                                                exact dn_lv [0, 1, 2, 3] rfl (hj2426 hle18)
                                                                                              · refine dn_iconst (pc := 2242) (v := 0) dL_law_2242 rfl ?_
                                                                                                refine dn_leaf ?_
                                                                                                refine dn_widen (cells2 := 600000) (slots2 := 7302250) (by show 400 + 128 * s18.toNatClampNeg ≤ 600000; omega) (by show 9000 + 1371 * s18.toNatClampNeg ≤ 7302250; omega) ?_
                                                                                                exact hR18 false _ _ _ rfl dL_law_2243
                                                                                            · refine dn_tcase (pc := 33) 44 2244 dL_law_33 (by decide) (by decide) rfl rfl (fun _ => ?_) (fun n33_44 => ?_)
                                                                                              · refine dn_aload_n (pc := 2244) v1 1 dL_law_2244 rfl ?_
                                                                                                refine dn_callV0I (pc := 2245) [] v1 kRL_200 (mX12_next w x b v1) rfl rfl (Nat.le_of_ble_eq_true rfl) ⟨(Nat.le_of_ble_eq_true rfl), (Nat.le_of_ble_eq_true rfl)⟩ ⟨rfl, rfl, (by show 400 + 128 * s18.toNatClampNeg ≤ 600000; omega), (by show 9000 + 1371 * s18.toNatClampNeg ≤ 7302250; omega)⟩ dL_law_2245 (fun v34 => ?_)
                                                                                                refine dn_aload_n (pc := 2248) v3 2 dL_law_2248 rfl ?_
                                                                                                refine dn_callV0I (pc := 2249) [] v3 kRL_203 (mX13_next w x b v3) rfl rfl (Nat.le_of_ble_eq_true rfl) ⟨(Nat.le_of_ble_eq_true rfl), (Nat.le_of_ble_eq_true rfl)⟩ ⟨rfl, rfl, (by show 400 + 128 * s18.toNatClampNeg ≤ 600000; omega), (by show 9000 + 1371 * s18.toNatClampNeg ≤ 7302250; omega)⟩ dL_law_2249 (fun v35 => ?_)
                                                                                                refine dn_icmp_eq (pc := 2252) 2426 dL_law_2252 rfl (fun _ => ?_) (fun _ => ?_)
                                                                                                · refine dn_widen (cells2 := 400 + 128 * s18.toNatClampNeg + 128) (slots2 := 9000 + 1371 * s18.toNatClampNeg + 1371) (by show 400 + 128 * s18.toNatClampNeg ≤ 400 + 128 * s18.toNatClampNeg + 128; omega) (by show 9000 + 1371 * s18.toNatClampNeg ≤ 9000 + 1371 * s18.toNatClampNeg + 1371; omega) ?_
                                                                                                  exact dn_lv [0, 1, 2, 3] rfl (hj2426 hle18)
                                                                                                · refine dn_iconst (pc := 2255) (v := 0) dL_law_2255 rfl ?_
                                                                                                  refine dn_leaf ?_
                                                                                                  refine dn_widen (cells2 := 600000) (slots2 := 7302250) (by show 400 + 128 * s18.toNatClampNeg ≤ 600000; omega) (by show 9000 + 1371 * s18.toNatClampNeg ≤ 7302250; omega) ?_
                                                                                                  exact hR18 false _ _ _ rfl dL_law_2256
                                                                                              · refine dn_tcase (pc := 33) 45 2257 dL_law_33 (by decide) (by decide) rfl rfl (fun _ => ?_) (fun n33_45 => ?_)
                                                                                                · refine dn_aload_n (pc := 2257) v1 1 dL_law_2257 rfl ?_
                                                                                                  refine dn_aloadX_n (pc := 2258) 0 dL_law_2258 rfl ?_
                                                                                                  refine dn_iload_n (pc := 2259) 3 dL_law_2259 rfl ?_
                                                                                                  refine dn_iconst (pc := 2260) (v := 1) dL_law_2260 rfl ?_
                                                                                                  refine dn_iadd (pc := 2261) dL_law_2261 ?_
                                                                                                  refine dn_sald (pc := 2262) dL_law_2262 (fun v30 => ?_)
                                                                                                  refine dn_callVI (pc := 2263) [.int v30] v1 kRL_204 (mX12_keep w x b v1 v30) rfl rfl (Nat.le_of_ble_eq_true rfl) ⟨(Nat.le_of_ble_eq_true rfl), (Nat.le_of_ble_eq_true rfl)⟩ ⟨(by show 400 + 128 * s18.toNatClampNeg + 128 ≤ 600000; omega), (by show 9000 + 1371 * s18.toNatClampNeg + 1371 ≤ 7302250; omega)⟩ dL_law_2263 (fun v31 => ?_)
                                                                                                  refine dn_aload_n (pc := 2266) v3 2 dL_law_2266 rfl ?_
                                                                                                  refine dn_aloadX_n (pc := 2267) 0 dL_law_2267 rfl ?_
                                                                                                  refine dn_iload_n (pc := 2268) 3 dL_law_2268 rfl ?_
                                                                                                  refine dn_iconst (pc := 2269) (v := 1) dL_law_2269 rfl ?_
                                                                                                  refine dn_iadd (pc := 2270) dL_law_2270 ?_
                                                                                                  refine dn_sald (pc := 2271) dL_law_2271 (fun v32 => ?_)
                                                                                                  refine dn_callV0I (pc := 2272) [.int v32] v3 kRL_207 (mX13_keep w x b v3 v32) rfl rfl (Nat.le_of_ble_eq_true rfl) ⟨(Nat.le_of_ble_eq_true rfl), (Nat.le_of_ble_eq_true rfl)⟩ ⟨rfl, rfl, (by show 400 + 128 * s18.toNatClampNeg + 128 ≤ 600000; omega), (by show 9000 + 1371 * s18.toNatClampNeg + 1371 ≤ 7302250; omega)⟩ dL_law_2272 (fun v33 => ?_)
                                                                                                  refine dn_icmp_eq (pc := 2275) 2426 dL_law_2275 rfl (fun _ => ?_) (fun _ => ?_)
                                                                                                  · refine dn_widen (cells2 := 400 + 128 * s18.toNatClampNeg + 128) (slots2 := 9000 + 1371 * s18.toNatClampNeg + 1371) (by show 400 + 128 * s18.toNatClampNeg + 128 ≤ 400 + 128 * s18.toNatClampNeg + 128; omega) (by show 9000 + 1371 * s18.toNatClampNeg + 1371 ≤ 9000 + 1371 * s18.toNatClampNeg + 1371; omega) ?_
                                                                                                    exact dn_lv [0, 1, 2, 3] rfl (hj2426 hle18)
                                                                                                  · refine dn_iconst (pc := 2278) (v := 0) dL_law_2278 rfl ?_
                                                                                                    refine dn_leaf ?_
                                                                                                    refine dn_widen (cells2 := 600000) (slots2 := 7302250) (by show 400 + 128 * s18.toNatClampNeg + 128 ≤ 600000; omega) (by show 9000 + 1371 * s18.toNatClampNeg + 1371 ≤ 7302250; omega) ?_
                                                                                                    exact hR18 false _ _ _ rfl dL_law_2279
                                                                                                · refine dn_tcase (pc := 33) 46 2280 dL_law_33 (by decide) (by decide) rfl rfl (fun _ => ?_) (fun n33_46 => ?_)
                                                                                                  · refine dn_aload_n (pc := 2280) v1 1 dL_law_2280 rfl ?_
                                                                                                    refine dn_aloadX_n (pc := 2281) 0 dL_law_2281 rfl ?_
                                                                                                    refine dn_iload_n (pc := 2282) 3 dL_law_2282 rfl ?_
                                                                                                    refine dn_iconst (pc := 2283) (v := 1) dL_law_2283 rfl ?_
                                                                                                    refine dn_iadd (pc := 2284) dL_law_2284 ?_
                                                                                                    refine dn_sald (pc := 2285) dL_law_2285 (fun v26 => ?_)
                                                                                                    refine dn_callV0I (pc := 2286) [.int v26] v1 kRL_208 (mX12_back w x b v1 v26) rfl rfl (Nat.le_of_ble_eq_true rfl) ⟨(Nat.le_of_ble_eq_true rfl), (Nat.le_of_ble_eq_true rfl)⟩ ⟨rfl, rfl, (by show 400 + 128 * s18.toNatClampNeg ≤ 600000; omega), (by show 9000 + 1371 * s18.toNatClampNeg ≤ 7302250; omega)⟩ dL_law_2286 (fun v27 => ?_)
                                                                                                    refine dn_aload_n (pc := 2289) v3 2 dL_law_2289 rfl ?_
                                                                                                    refine dn_aloadX_n (pc := 2290) 0 dL_law_2290 rfl ?_
                                                                                                    refine dn_iload_n (pc := 2291) 3 dL_law_2291 rfl ?_
                                                                                                    refine dn_iconst (pc := 2292) (v := 1) dL_law_2292 rfl ?_
                                                                                                    refine dn_iadd (pc := 2293) dL_law_2293 ?_
                                                                                                    refine dn_sald (pc := 2294) dL_law_2294 (fun v28 => ?_)
                                                                                                    refine dn_callV0I (pc := 2295) [.int v28] v3 kRL_211 (mX13_back w x b v3 v28) rfl rfl (Nat.le_of_ble_eq_true rfl) ⟨(Nat.le_of_ble_eq_true rfl), (Nat.le_of_ble_eq_true rfl)⟩ ⟨rfl, rfl, (by show 400 + 128 * s18.toNatClampNeg ≤ 600000; omega), (by show 9000 + 1371 * s18.toNatClampNeg ≤ 7302250; omega)⟩ dL_law_2295 (fun v29 => ?_)
                                                                                                    refine dn_icmp_eq (pc := 2298) 2426 dL_law_2298 rfl (fun _ => ?_) (fun _ => ?_)
                                                                                                    · refine dn_widen (cells2 := 400 + 128 * s18.toNatClampNeg + 128) (slots2 := 9000 + 1371 * s18.toNatClampNeg + 1371) (by show 400 + 128 * s18.toNatClampNeg ≤ 400 + 128 * s18.toNatClampNeg + 128; omega) (by show 9000 + 1371 * s18.toNatClampNeg ≤ 9000 + 1371 * s18.toNatClampNeg + 1371; omega) ?_
                                                                                                      exact dn_lv [0, 1, 2, 3] rfl (hj2426 hle18)
                                                                                                    · refine dn_iconst (pc := 2301) (v := 0) dL_law_2301 rfl ?_
                                                                                                      refine dn_leaf ?_
                                                                                                      refine dn_widen (cells2 := 600000) (slots2 := 7302250) (by show 400 + 128 * s18.toNatClampNeg ≤ 600000; omega) (by show 9000 + 1371 * s18.toNatClampNeg ≤ 7302250; omega) ?_
                                                                                                      exact hR18 false _ _ _ rfl dL_law_2302
                                                                                                  · refine dn_tcase (pc := 33) 47 2303 dL_law_33 (by decide) (by decide) rfl rfl (fun _ => ?_) (fun n33_47 => ?_)
                                                                                                    · refine dn_aload_n (pc := 2303) v1 1 dL_law_2303 rfl ?_
                                                                                                      refine dn_callV0L (pc := 2304) [] v1 kRL_212 (mX12_told w x b v1) rfl rfl (Nat.le_of_ble_eq_true rfl) ⟨(Nat.le_of_ble_eq_true rfl), (Nat.le_of_ble_eq_true rfl)⟩ ⟨rfl, rfl, (by show 400 + 128 * s18.toNatClampNeg ≤ 600000; omega), (by show 9000 + 1371 * s18.toNatClampNeg ≤ 7302250; omega)⟩ dL_law_2304 (fun v24 => ?_)
                                                                                                      refine dn_aload_n (pc := 2307) v3 2 dL_law_2307 rfl ?_
                                                                                                      refine dn_callV0L (pc := 2308) [] v3 kRL_216 (mX13_told w x b v3) rfl rfl (Nat.le_of_ble_eq_true rfl) ⟨(Nat.le_of_ble_eq_true rfl), (Nat.le_of_ble_eq_true rfl)⟩ ⟨rfl, rfl, (by show 400 + 128 * s18.toNatClampNeg ≤ 600000; omega), (by show 9000 + 1371 * s18.toNatClampNeg ≤ 7302250; omega)⟩ dL_law_2308 (fun v25 => ?_)
                                                                                                      refine dn_lcmp (pc := 2311) dL_law_2311 ?_
                                                                                                      refine dn_if_eq (pc := 2312) 2426 dL_law_2312 rfl (fun _ => ?_) (fun _ => ?_)
                                                                                                      · refine dn_widen (cells2 := 400 + 128 * s18.toNatClampNeg + 128) (slots2 := 9000 + 1371 * s18.toNatClampNeg + 1371) (by show 400 + 128 * s18.toNatClampNeg ≤ 400 + 128 * s18.toNatClampNeg + 128; omega) (by show 9000 + 1371 * s18.toNatClampNeg ≤ 9000 + 1371 * s18.toNatClampNeg + 1371; omega) ?_
                                                                                                        exact dn_lv [0, 1, 2, 3] rfl (hj2426 hle18)
                                                                                                      · refine dn_iconst (pc := 2315) (v := 0) dL_law_2315 rfl ?_
                                                                                                        refine dn_leaf ?_
                                                                                                        refine dn_widen (cells2 := 600000) (slots2 := 7302250) (by show 400 + 128 * s18.toNatClampNeg ≤ 600000; omega) (by show 9000 + 1371 * s18.toNatClampNeg ≤ 7302250; omega) ?_
                                                                                                        exact hR18 false _ _ _ rfl dL_law_2316
                                                                                                    · refine dn_tcase (pc := 33) 48 2317 dL_law_33 (by decide) (by decide) rfl rfl (fun _ => ?_) (fun n33_48 => ?_)
                                                                                                      · refine dn_aload_n (pc := 2317) v1 1 dL_law_2317 rfl ?_
                                                                                                        refine dn_callV0I (pc := 2318) [] v1 kRL_217 (mX12_first w x b v1) rfl rfl (Nat.le_of_ble_eq_true rfl) ⟨(Nat.le_of_ble_eq_true rfl), (Nat.le_of_ble_eq_true rfl)⟩ ⟨rfl, rfl, (by show 400 + 128 * s18.toNatClampNeg ≤ 600000; omega), (by show 9000 + 1371 * s18.toNatClampNeg ≤ 7302250; omega)⟩ dL_law_2318 (fun v22 => ?_)
                                                                                                        refine dn_aload_n (pc := 2321) v3 2 dL_law_2321 rfl ?_
                                                                                                        refine dn_callV0I (pc := 2322) [] v3 kRL_220 (mX13_first w x b v3) rfl rfl (Nat.le_of_ble_eq_true rfl) ⟨(Nat.le_of_ble_eq_true rfl), (Nat.le_of_ble_eq_true rfl)⟩ ⟨rfl, rfl, (by show 400 + 128 * s18.toNatClampNeg ≤ 600000; omega), (by show 9000 + 1371 * s18.toNatClampNeg ≤ 7302250; omega)⟩ dL_law_2322 (fun v23 => ?_)
                                                                                                        refine dn_icmp_eq (pc := 2325) 2426 dL_law_2325 rfl (fun _ => ?_) (fun _ => ?_)
                                                                                                        · refine dn_widen (cells2 := 400 + 128 * s18.toNatClampNeg + 128) (slots2 := 9000 + 1371 * s18.toNatClampNeg + 1371) (by show 400 + 128 * s18.toNatClampNeg ≤ 400 + 128 * s18.toNatClampNeg + 128; omega) (by show 9000 + 1371 * s18.toNatClampNeg ≤ 9000 + 1371 * s18.toNatClampNeg + 1371; omega) ?_
                                                                                                          exact dn_lv [0, 1, 2, 3] rfl (hj2426 hle18)
                                                                                                        · refine dn_iconst (pc := 2328) (v := 0) dL_law_2328 rfl ?_
                                                                                                          refine dn_leaf ?_
                                                                                                          refine dn_widen (cells2 := 600000) (slots2 := 7302250) (by show 400 + 128 * s18.toNatClampNeg ≤ 600000; omega) (by show 9000 + 1371 * s18.toNatClampNeg ≤ 7302250; omega) ?_
                                                                                                          exact hR18 false _ _ _ rfl dL_law_2329
                                                                                                      · refine dn_tcase (pc := 33) 49 2330 dL_law_33 (by decide) (by decide) rfl rfl (fun _ => ?_) (fun n33_49 => ?_)
                                                                                                        · refine dn_aload_n (pc := 2330) v1 1 dL_law_2330 rfl ?_
                                                                                                          refine dn_callV0I (pc := 2331) [] v1 kRL_221 (mX12_passed w x b v1) rfl rfl (Nat.le_of_ble_eq_true rfl) ⟨(Nat.le_of_ble_eq_true rfl), (Nat.le_of_ble_eq_true rfl)⟩ ⟨rfl, rfl, (by show 400 + 128 * s18.toNatClampNeg ≤ 600000; omega), (by show 9000 + 1371 * s18.toNatClampNeg ≤ 7302250; omega)⟩ dL_law_2331 (fun v20 => ?_)
                                                                                                          refine dn_aload_n (pc := 2334) v3 2 dL_law_2334 rfl ?_
                                                                                                          refine dn_callV0I (pc := 2335) [] v3 kRL_224 (mX13_passed w x b v3) rfl rfl (Nat.le_of_ble_eq_true rfl) ⟨(Nat.le_of_ble_eq_true rfl), (Nat.le_of_ble_eq_true rfl)⟩ ⟨rfl, rfl, (by show 400 + 128 * s18.toNatClampNeg ≤ 600000; omega), (by show 9000 + 1371 * s18.toNatClampNeg ≤ 7302250; omega)⟩ dL_law_2335 (fun v21 => ?_)
                                                                                                          refine dn_icmp_eq (pc := 2338) 2426 dL_law_2338 rfl (fun _ => ?_) (fun _ => ?_)
                                                                                                          · refine dn_widen (cells2 := 400 + 128 * s18.toNatClampNeg + 128) (slots2 := 9000 + 1371 * s18.toNatClampNeg + 1371) (by show 400 + 128 * s18.toNatClampNeg ≤ 400 + 128 * s18.toNatClampNeg + 128; omega) (by show 9000 + 1371 * s18.toNatClampNeg ≤ 9000 + 1371 * s18.toNatClampNeg + 1371; omega) ?_
                                                                                                            exact dn_lv [0, 1, 2, 3] rfl (hj2426 hle18)
                                                                                                          · refine dn_iconst (pc := 2341) (v := 0) dL_law_2341 rfl ?_
                                                                                                            refine dn_leaf ?_
                                                                                                            refine dn_widen (cells2 := 600000) (slots2 := 7302250) (by show 400 + 128 * s18.toNatClampNeg ≤ 600000; omega) (by show 9000 + 1371 * s18.toNatClampNeg ≤ 7302250; omega) ?_
                                                                                                            exact hR18 false _ _ _ rfl dL_law_2342
                                                                                                        · refine dn_tcase (pc := 33) 50 2343 dL_law_33 (by decide) (by decide) rfl rfl (fun _ => ?_) (fun n33_50 => ?_)
                                                                                                          · refine dn_aload_n (pc := 2343) v1 1 dL_law_2343 rfl ?_
                                                                                                            refine dn_aloadX_n (pc := 2344) 0 dL_law_2344 rfl ?_
                                                                                                            refine dn_iload_n (pc := 2345) 3 dL_law_2345 rfl ?_
                                                                                                            refine dn_iconst (pc := 2346) (v := 1) dL_law_2346 rfl ?_
                                                                                                            refine dn_iadd (pc := 2347) dL_law_2347 ?_
                                                                                                            refine dn_sald (pc := 2348) dL_law_2348 (fun v16 => ?_)
                                                                                                            refine dn_callV0I (pc := 2349) [.int v16] v1 kRL_225 (mX12_refusals w x b v1 v16) rfl rfl (Nat.le_of_ble_eq_true rfl) ⟨(Nat.le_of_ble_eq_true rfl), (Nat.le_of_ble_eq_true rfl)⟩ ⟨rfl, rfl, (by show 400 + 128 * s18.toNatClampNeg ≤ 600000; omega), (by show 9000 + 1371 * s18.toNatClampNeg ≤ 7302250; omega)⟩ dL_law_2349 (fun v17 => ?_)
                                                                                                            refine dn_aload_n (pc := 2352) v3 2 dL_law_2352 rfl ?_
                                                                                                            refine dn_aloadX_n (pc := 2353) 0 dL_law_2353 rfl ?_
                                                                                                            refine dn_iload_n (pc := 2354) 3 dL_law_2354 rfl ?_
                                                                                                            refine dn_iconst (pc := 2355) (v := 1) dL_law_2355 rfl ?_
                                                                                                            refine dn_iadd (pc := 2356) dL_law_2356 ?_
                                                                                                            refine dn_sald (pc := 2357) dL_law_2357 (fun v18 => ?_)
                                                                                                            refine dn_callV0I (pc := 2358) [.int v18] v3 kRL_228 (mX13_refusals w x b v3 v18) rfl rfl (Nat.le_of_ble_eq_true rfl) ⟨(Nat.le_of_ble_eq_true rfl), (Nat.le_of_ble_eq_true rfl)⟩ ⟨rfl, rfl, (by show 400 + 128 * s18.toNatClampNeg ≤ 600000; omega), (by show 9000 + 1371 * s18.toNatClampNeg ≤ 7302250; omega)⟩ dL_law_2358 (fun v19 => ?_)
                                                                                                            refine dn_icmp_eq (pc := 2361) 2426 dL_law_2361 rfl (fun _ => ?_) (fun _ => ?_)
                                                                                                            · refine dn_widen (cells2 := 400 + 128 * s18.toNatClampNeg + 128) (slots2 := 9000 + 1371 * s18.toNatClampNeg + 1371) (by show 400 + 128 * s18.toNatClampNeg ≤ 400 + 128 * s18.toNatClampNeg + 128; omega) (by show 9000 + 1371 * s18.toNatClampNeg ≤ 9000 + 1371 * s18.toNatClampNeg + 1371; omega) ?_
                                                                                                              exact dn_lv [0, 1, 2, 3] rfl (hj2426 hle18)
                                                                                                            · refine dn_iconst (pc := 2364) (v := 0) dL_law_2364 rfl ?_
                                                                                                              refine dn_leaf ?_
                                                                                                              refine dn_widen (cells2 := 600000) (slots2 := 7302250) (by show 400 + 128 * s18.toNatClampNeg ≤ 600000; omega) (by show 9000 + 1371 * s18.toNatClampNeg ≤ 7302250; omega) ?_
                                                                                                              exact hR18 false _ _ _ rfl dL_law_2365
                                                                                                          · refine dn_tcase (pc := 33) 51 2366 dL_law_33 (by decide) (by decide) rfl rfl (fun _ => ?_) (fun n33_51 => ?_)
                                                                                                            · refine dn_aload_n (pc := 2366) v1 1 dL_law_2366 rfl ?_
                                                                                                              refine dn_aloadX_n (pc := 2367) 0 dL_law_2367 rfl ?_
                                                                                                              refine dn_iload_n (pc := 2368) 3 dL_law_2368 rfl ?_
                                                                                                              refine dn_iconst (pc := 2369) (v := 1) dL_law_2369 rfl ?_
                                                                                                              refine dn_iadd (pc := 2370) dL_law_2370 ?_
                                                                                                              refine dn_sald (pc := 2371) dL_law_2371 (fun v12 => ?_)
                                                                                                              refine dn_callV0I (pc := 2372) [.int v12] v1 kRL_229 (mX12_count w x b v1 v12) rfl rfl (Nat.le_of_ble_eq_true rfl) ⟨(Nat.le_of_ble_eq_true rfl), (Nat.le_of_ble_eq_true rfl)⟩ ⟨rfl, rfl, (by show 400 + 128 * s18.toNatClampNeg ≤ 600000; omega), (by show 9000 + 1371 * s18.toNatClampNeg ≤ 7302250; omega)⟩ dL_law_2372 (fun v13 => ?_)
                                                                                                              refine dn_aload_n (pc := 2375) v3 2 dL_law_2375 rfl ?_
                                                                                                              refine dn_aloadX_n (pc := 2376) 0 dL_law_2376 rfl ?_
                                                                                                              refine dn_iload_n (pc := 2377) 3 dL_law_2377 rfl ?_
                                                                                                              refine dn_iconst (pc := 2378) (v := 1) dL_law_2378 rfl ?_
                                                                                                              refine dn_iadd (pc := 2379) dL_law_2379 ?_
                                                                                                              refine dn_sald (pc := 2380) dL_law_2380 (fun v14 => ?_)
                                                                                                              refine dn_callV0I (pc := 2381) [.int v14] v3 kRL_232 (mX13_count w x b v3 v14) rfl rfl (Nat.le_of_ble_eq_true rfl) ⟨(Nat.le_of_ble_eq_true rfl), (Nat.le_of_ble_eq_true rfl)⟩ ⟨rfl, rfl, (by show 400 + 128 * s18.toNatClampNeg ≤ 600000; omega), (by show 9000 + 1371 * s18.toNatClampNeg ≤ 7302250; omega)⟩ dL_law_2381 (fun v15 => ?_)
                                                                                                              refine dn_icmp_eq (pc := 2384) 2426 dL_law_2384 rfl (fun _ => ?_) (fun _ => ?_)
                                                                                                              · refine dn_widen (cells2 := 400 + 128 * s18.toNatClampNeg + 128) (slots2 := 9000 + 1371 * s18.toNatClampNeg + 1371) (by show 400 + 128 * s18.toNatClampNeg ≤ 400 + 128 * s18.toNatClampNeg + 128; omega) (by show 9000 + 1371 * s18.toNatClampNeg ≤ 9000 + 1371 * s18.toNatClampNeg + 1371; omega) ?_
                                                                                                                exact dn_lv [0, 1, 2, 3] rfl (hj2426 hle18)
                                                                                                              · refine dn_iconst (pc := 2387) (v := 0) dL_law_2387 rfl ?_
                                                                                                                refine dn_leaf ?_
                                                                                                                refine dn_widen (cells2 := 600000) (slots2 := 7302250) (by show 400 + 128 * s18.toNatClampNeg ≤ 600000; omega) (by show 9000 + 1371 * s18.toNatClampNeg ≤ 7302250; omega) ?_
                                                                                                                exact hR18 false _ _ _ rfl dL_law_2388
                                                                                                            · refine dn_tcase (pc := 33) 52 2389 dL_law_33 (by decide) (by decide) rfl rfl (fun _ => ?_) (fun n33_52 => ?_)
                                                                                                              · refine dn_aload_n (pc := 2389) v1 1 dL_law_2389 rfl ?_
                                                                                                                refine dn_aloadX_n (pc := 2390) 0 dL_law_2390 rfl ?_
                                                                                                                refine dn_iload_n (pc := 2391) 3 dL_law_2391 rfl ?_
                                                                                                                refine dn_iconst (pc := 2392) (v := 1) dL_law_2392 rfl ?_
                                                                                                                refine dn_iadd (pc := 2393) dL_law_2393 ?_
                                                                                                                refine dn_sald (pc := 2394) dL_law_2394 (fun v8 => ?_)
                                                                                                                refine dn_callV0I (pc := 2395) [.int v8] v1 kRL_233 (mX12_kinds w x b v1 v8) rfl rfl (Nat.le_of_ble_eq_true rfl) ⟨(Nat.le_of_ble_eq_true rfl), (Nat.le_of_ble_eq_true rfl)⟩ ⟨rfl, rfl, (by show 400 + 128 * s18.toNatClampNeg ≤ 600000; omega), (by show 9000 + 1371 * s18.toNatClampNeg ≤ 7302250; omega)⟩ dL_law_2395 (fun v9 => ?_)
                                                                                                                refine dn_aload_n (pc := 2398) v3 2 dL_law_2398 rfl ?_
                                                                                                                refine dn_aloadX_n (pc := 2399) 0 dL_law_2399 rfl ?_
                                                                                                                refine dn_iload_n (pc := 2400) 3 dL_law_2400 rfl ?_
                                                                                                                refine dn_iconst (pc := 2401) (v := 1) dL_law_2401 rfl ?_
                                                                                                                refine dn_iadd (pc := 2402) dL_law_2402 ?_
                                                                                                                refine dn_sald (pc := 2403) dL_law_2403 (fun v10 => ?_)
                                                                                                                refine dn_callV0I (pc := 2404) [.int v10] v3 kRL_236 (mX13_kinds w x b v3 v10) rfl rfl (Nat.le_of_ble_eq_true rfl) ⟨(Nat.le_of_ble_eq_true rfl), (Nat.le_of_ble_eq_true rfl)⟩ ⟨rfl, rfl, (by show 400 + 128 * s18.toNatClampNeg ≤ 600000; omega), (by show 9000 + 1371 * s18.toNatClampNeg ≤ 7302250; omega)⟩ dL_law_2404 (fun v11 => ?_)
                                                                                                                refine dn_icmp_eq (pc := 2407) 2426 dL_law_2407 rfl (fun _ => ?_) (fun _ => ?_)
                                                                                                                · refine dn_widen (cells2 := 400 + 128 * s18.toNatClampNeg + 128) (slots2 := 9000 + 1371 * s18.toNatClampNeg + 1371) (by show 400 + 128 * s18.toNatClampNeg ≤ 400 + 128 * s18.toNatClampNeg + 128; omega) (by show 9000 + 1371 * s18.toNatClampNeg ≤ 9000 + 1371 * s18.toNatClampNeg + 1371; omega) ?_
                                                                                                                  exact dn_lv [0, 1, 2, 3] rfl (hj2426 hle18)
                                                                                                                · refine dn_iconst (pc := 2410) (v := 0) dL_law_2410 rfl ?_
                                                                                                                  refine dn_leaf ?_
                                                                                                                  refine dn_widen (cells2 := 600000) (slots2 := 7302250) (by show 400 + 128 * s18.toNatClampNeg ≤ 600000; omega) (by show 9000 + 1371 * s18.toNatClampNeg ≤ 7302250; omega) ?_
                                                                                                                  exact hR18 false _ _ _ rfl dL_law_2411
                                                                                                              · refine dn_tcase (pc := 33) 53 2412 dL_law_33 (by decide) (by decide) rfl rfl (fun _ => ?_) (fun n33_53 => ?_)
                                                                                                                · refine dn_aload_n (pc := 2412) v1 1 dL_law_2412 rfl ?_
                                                                                                                  refine dn_callV0L (pc := 2413) [] v1 kRL_237 (mX12_digest w x b v1) rfl rfl (Nat.le_of_ble_eq_true rfl) ⟨(Nat.le_of_ble_eq_true rfl), (Nat.le_of_ble_eq_true rfl)⟩ ⟨rfl, rfl, (by show 400 + 128 * s18.toNatClampNeg ≤ 600000; omega), (by show 9000 + 1371 * s18.toNatClampNeg ≤ 7302250; omega)⟩ dL_law_2413 (fun v6 => ?_)
                                                                                                                  refine dn_aload_n (pc := 2416) v3 2 dL_law_2416 rfl ?_
                                                                                                                  refine dn_callV0L (pc := 2417) [] v3 kRL_240 (mX13_digest w x b v3) rfl rfl (Nat.le_of_ble_eq_true rfl) ⟨(Nat.le_of_ble_eq_true rfl), (Nat.le_of_ble_eq_true rfl)⟩ ⟨rfl, rfl, (by show 400 + 128 * s18.toNatClampNeg ≤ 600000; omega), (by show 9000 + 1371 * s18.toNatClampNeg ≤ 7302250; omega)⟩ dL_law_2417 (fun v7 => ?_)
                                                                                                                  refine dn_lcmp (pc := 2420) dL_law_2420 ?_
                                                                                                                  refine dn_if_eq (pc := 2421) 2426 dL_law_2421 rfl (fun _ => ?_) (fun _ => ?_)
                                                                                                                  · refine dn_widen (cells2 := 400 + 128 * s18.toNatClampNeg + 128) (slots2 := 9000 + 1371 * s18.toNatClampNeg + 1371) (by show 400 + 128 * s18.toNatClampNeg ≤ 400 + 128 * s18.toNatClampNeg + 128; omega) (by show 9000 + 1371 * s18.toNatClampNeg ≤ 9000 + 1371 * s18.toNatClampNeg + 1371; omega) ?_
                                                                                                                    exact dn_lv [0, 1, 2, 3] rfl (hj2426 hle18)
                                                                                                                  · refine dn_iconst (pc := 2424) (v := 0) dL_law_2424 rfl ?_
                                                                                                                    refine dn_leaf ?_
                                                                                                                    refine dn_widen (cells2 := 600000) (slots2 := 7302250) (by show 400 + 128 * s18.toNatClampNeg ≤ 600000; omega) (by show 9000 + 1371 * s18.toNatClampNeg ≤ 7302250; omega) ?_
                                                                                                                    exact hR18 false _ _ _ rfl dL_law_2425
                                                                                                                · refine dn_tout (pc := 33) [0, 1, 2, 3, 4, 5, 6, 7, 8, 9, 10, 11, 12, 13, 14, 15, 16, 17, 18, 19, 20, 21, 22, 23, 24, 25, 26, 27, 28, 29, 30, 31, 32, 33, 34, 35, 36, 37, 38, 39, 40, 41, 42, 43, 44, 45, 46, 47, 48, 49, 50, 51, 52, 53] 2426 dL_law_33 (List.forall_mem_cons.mpr ⟨n33_0, (List.forall_mem_cons.mpr ⟨n33_1, (List.forall_mem_cons.mpr ⟨n33_2, (List.forall_mem_cons.mpr ⟨n33_3, (List.forall_mem_cons.mpr ⟨n33_4, (List.forall_mem_cons.mpr ⟨n33_5, (List.forall_mem_cons.mpr ⟨n33_6, (List.forall_mem_cons.mpr ⟨n33_7, (List.forall_mem_cons.mpr ⟨n33_8, (List.forall_mem_cons.mpr ⟨n33_9, (List.forall_mem_cons.mpr ⟨n33_10, (List.forall_mem_cons.mpr ⟨n33_11, (List.forall_mem_cons.mpr ⟨n33_12, (List.forall_mem_cons.mpr ⟨n33_13, (List.forall_mem_cons.mpr ⟨n33_14, (List.forall_mem_cons.mpr ⟨n33_15, (List.forall_mem_cons.mpr ⟨n33_16, (List.forall_mem_cons.mpr ⟨n33_17, (List.forall_mem_cons.mpr ⟨n33_18, (List.forall_mem_cons.mpr ⟨n33_19, (List.forall_mem_cons.mpr ⟨n33_20, (List.forall_mem_cons.mpr ⟨n33_21, (List.forall_mem_cons.mpr ⟨n33_22, (List.forall_mem_cons.mpr ⟨n33_23, (List.forall_mem_cons.mpr ⟨n33_24, (List.forall_mem_cons.mpr ⟨n33_25, (List.forall_mem_cons.mpr ⟨n33_26, (List.forall_mem_cons.mpr ⟨n33_27, (List.forall_mem_cons.mpr ⟨n33_28, (List.forall_mem_cons.mpr ⟨n33_29, (List.forall_mem_cons.mpr ⟨n33_30, (List.forall_mem_cons.mpr ⟨n33_31, (List.forall_mem_cons.mpr ⟨n33_32, (List.forall_mem_cons.mpr ⟨n33_33, (List.forall_mem_cons.mpr ⟨n33_34, (List.forall_mem_cons.mpr ⟨n33_35, (List.forall_mem_cons.mpr ⟨n33_36, (List.forall_mem_cons.mpr ⟨n33_37, (List.forall_mem_cons.mpr ⟨n33_38, (List.forall_mem_cons.mpr ⟨n33_39, (List.forall_mem_cons.mpr ⟨n33_40, (List.forall_mem_cons.mpr ⟨n33_41, (List.forall_mem_cons.mpr ⟨n33_42, (List.forall_mem_cons.mpr ⟨n33_43, (List.forall_mem_cons.mpr ⟨n33_44, (List.forall_mem_cons.mpr ⟨n33_45, (List.forall_mem_cons.mpr ⟨n33_46, (List.forall_mem_cons.mpr ⟨n33_47, (List.forall_mem_cons.mpr ⟨n33_48, (List.forall_mem_cons.mpr ⟨n33_49, (List.forall_mem_cons.mpr ⟨n33_50, (List.forall_mem_cons.mpr ⟨n33_51, (List.forall_mem_cons.mpr ⟨n33_52, (List.forall_mem_cons.mpr ⟨n33_53, (fun _ h => absurd h List.not_mem_nil)⟩)⟩)⟩)⟩)⟩)⟩)⟩)⟩)⟩)⟩)⟩)⟩)⟩)⟩)⟩)⟩)⟩)⟩)⟩)⟩)⟩)⟩)⟩)⟩)⟩)⟩)⟩)⟩)⟩)⟩)⟩)⟩)⟩)⟩)⟩)⟩)⟩)⟩)⟩)⟩)⟩)⟩)⟩)⟩)⟩)⟩)⟩)⟩)⟩)⟩)⟩)⟩)⟩)⟩) (by decide) rfl ?_
                                                                                                                  refine dn_widen (cells2 := 400 + 128 * s18.toNatClampNeg + 128) (slots2 := 9000 + 1371 * s18.toNatClampNeg + 1371) (by show 400 + 128 * s18.toNatClampNeg ≤ 400 + 128 * s18.toNatClampNeg + 128; omega) (by show 9000 + 1371 * s18.toNatClampNeg ≤ 9000 + 1371 * s18.toNatClampNeg + 1371; omega) ?_
                                                                                                                  exact dn_lv [0, 1, 2, 3] rfl (hj2426 hle18)
  · dsimp only [Sum.elim_inl]
    refine dn_iconst (pc := 2432) (v := 1) dL_law_2432 rfl ?_
    exact dn_ret (Nat.le_of_ble_eq_true rfl) (Nat.le_of_ble_eq_true rfl) rfl dL_law_2433
