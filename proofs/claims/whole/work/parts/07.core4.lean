/-! CORE 4: the heap's rules -/
/-- a kind of object, as the tables have it -/
def dnDf : Nat → Value
  | 0 => .int 0
  | 1 => .long 0
  | 2 => .double 0
  | _ => .null
def dnCl (t : Nat) (C : String) (T : u_T) (N : Nat) (ty : Nat → FieldType) : Prop := t < 100 ∧ vwCl[t]? = some (C, T, N) ∧ (∀ wd ∈ u_ws C T N, wd ∈ lw_ok) ∧ (∀ k, k < N → parseFieldDescriptor (T k).2.2.1 = some (ty k)) ∧ (∀ a, a < N → ∀ b, b < N → a ≠ b → (T a).2.1 ≠ (T b).2.1) ∧ (dnFt t).length = N ∧ ∀ j, j < N → defaultValue (ty j) = dnDf ((dnFt t).getD j 0)
def dnFty (tg : Nat) (f : FieldType) : Prop := (tg = 0 ∧ f = .int) ∨ (tg = 1 ∧ f = .long) ∨ (tg = 2 ∧ f = .double) ∨ (tg = 3 ∧ ((∃ C, f = .object C) ∨ ∃ t, f = .array t))
/-- a field by its entry of the pool: of the kind t the place k, of the type tg; final or not -/
def dnFL (own : String) (idx t k tg : Nat) (fin : Bool) : Prop := ∃ (C : String) (T : u_T) (N : Nat) (ty : Nat → FieldType), dnCl t C T N ty ∧ k < N ∧ (T k).1 = C ∧ (dnFt t)[k]? = some tg ∧ Cond.fieldLink own idx C (T k).2.1 (T k).2.2.1 ∈ lw_ok ∧ (T k).2.2.2 = fin ∧ (∃ f, parseFieldDescriptor (T k).2.2.1 = some f ∧ dnFty tg f)
theorem dnE_obj {w : dnWd} {b : Nat} {h : dnH} {a t n : Nat} (ht : t < 100) : dnE w b h a (t, n) = .inr (t, dnFs b h a t) := by simp [dnE, ht]
theorem dnR_upd {w : dnWd} {b : Nat} {h h2 : dnH} {H H1 : Heap} {a : Nat} {q : Nat × Nat} {e : va_E} (hR : dnR w b h H) (hK : h2.1 = h.1) (ho : ∀ (i : Nat) (q : Nat × Nat), i ≠ a → dnE w b h2 i q = dnE w b h i q) (hq : h.1[a]? = some q) (he : dnE w b h2 a q = e) (hz : H1.size = H.size) (hat : va_at w.1 vwCl (b + a, e) H1) (oq : ∀ q : Nat, q ≠ b + a → H1[q]? = H[q]?) : dnR w b h2 H1 := by
  refine ⟨by rw [hK, hz]; exact hR.1, ?_⟩
  rw [dnWs_upd hK ho hq, he]
  exact hR.2.set dnWs_D (dnWs_get hq) hat oq
section DN
variable {w : dnWd} {x : dnX} {b : Nat} {G : State → Prop} {cc : ByteArray} {own : String} {nL : Nat} {rm : Room} {nm : String} {α β γ : Type} {em : α → Option Value} {pc cells slots : Nat} {lv : List (Nat × Value)} {st : List Value} {F : dnM α}
theorem dn_getI {idx t k : Nat} {fin : Bool} {f : Int32 → dnM β} {g : β → dnM α} (r : Option Nat) (hL : dnFL own idx t k 0 fin) (hdg : decode cc pc = .ok (.getfield idx, 3)) (kk : ∀ v, dnD w x b G cc own nL rm nm em (pc + 3) cells slots lv (.int v :: st) (dnB (f v) g)) : dnD w x b G cc own nL rm nm em pc cells slots lv (dnV b r :: st) (dnB (dnB (dnGI r t k) f) g) := by
  intro p l e s m args below meth c Q h a h1 H locs ls hC hF hR hS hl hq
  obtain ⟨hx, hb, hml, hown, hts, hnm, hK, hX, hbs, hSt, hG⟩ := id hC
  rw [dnB_assoc] at hF
  obtain ⟨v, h2, e1, e2⟩ := dnB_inv hF
  obtain ⟨⟨a0, n⟩, hat, he⟩ := Option.map_eq_some_iff.mp e1
  cases he
  obtain ⟨rfl, hq0⟩ := dnAt_inv hat
  obtain ⟨C, T, N, ty, ⟨ht, hcl, hin, hty, hnn, hlen, -⟩, hk, hd, hft, hlk, -, -⟩ := hL
  have hw := dnWs_get (w := w) (b := b) hq0
  rw [dnE_obj ht] at hw
  exact va_get hx hb hts hin hown hK hR.2 a0 hw hcl k hk (hts _ hlk) (fun _ h9 => by rw [hd] at h9; exact h9) (dnFs_gI hft) hdg (kk _ p l e s m args below meth c Q h a h1 H locs ls hC e2 hR hS hl hq)
theorem dn_putI {idx t k : Nat} {v : Int32} {f : Unit → dnM β} {g : β → dnM α} (r : Option Nat) (hL : dnFL own idx t k 0 false)  (hdg : decode cc pc = .ok (.putfield idx, 3)) (kk : dnD w x b G cc own nL rm nm em (pc + 3) cells slots lv st (dnB (f ()) g)) : dnD w x b G cc own nL rm nm em pc cells slots lv (.int v :: dnV b r :: st) (dnB (dnB (dnPI r t k v) f) g) := by
  intro p l e s m args below meth c Q h a h1 H locs ls hC hF hR hS hl hq
  obtain ⟨hx, hb, hml, hown, hts, hnm, hK, hX, hbs, hSt, hG⟩ := id hC
  rw [dnB_assoc] at hF
  obtain ⟨u, h2, e1, e2⟩ := dnB_inv hF
  obtain ⟨⟨a0, n⟩, hat, he⟩ := Option.map_eq_some_iff.mp e1
  cases he
  obtain ⟨rfl, hq0⟩ := dnAt_inv hat
  obtain ⟨C, T, N, ty, ⟨ht, hcl, hin, hty, hnn, hlen, -⟩, hk, hd, hft, hlk, hfin, fty, hpd, hfty⟩ := hL
  have hw := dnWs_get (w := w) (b := b) hq0
  rw [dnE_obj ht] at hw
  have hfl : k < (dnFs b h a0 t).length := by
    simp only [dnFs, List.length_mapIdx, hlen]
    exact hk
  have hnf : narrow fty (.int v) = (.int v) ∧ fits fty (.int v) = true := by
    rcases hfty with ⟨q1, rfl⟩ | ⟨q1, rfl⟩ | ⟨q1, rfl⟩ | ⟨q1, ⟨C1, rfl⟩ | ⟨t1, rfl⟩⟩ <;> first | exact absurd q1 (by decide) | exact ⟨rfl, rfl⟩ | (cases v <;> exact ⟨rfl, rfl⟩)
  have hap := va_apart (own := own) hts hin ty hty hnn hK hcl
  obtain ⟨q, g1, cell, q1, q2, q3, q4⟩ := hR.2 a0 _ hw
  have hqe : q = (C, T, N) := Option.some.inj (g1.symm.trans hcl)
  subst hqe
  obtain ⟨hSl, hfc, kC, hkC, hkind⟩ := hK.1 t _ hcl
  obtain ⟨cf, kf, fi, fd, hi, hsl⟩ := hSl k hk
  have hlay := hts _ (hin _ (u_in_lay hk))
  unfold u_lay at hlay
  rw [if_neg (by rw [hfin]; decide)] at hlay
  have hst := (u_facts hfc hkC (u_lays hts hin hk) hi).1
  have h6 := u_store hfc hkC hkind hlay hi hpd hnf.1 hnf.2
  refine W.putK hx hb (f := fd) ⟨hown, hts _ hlk, ⟨_, _, _, hd ▸ hi⟩, hst⟩ (by rw [q2]; exact h6) q1 q3 (by rw [hsl]; exact k2_hasslot (q4 k hk)) rfl rfl hdg fun H2 z1 z2 z3 => ?_
  rw [hsl] at z1 ⊢
  exact kk p l e s m args below meth c Q _ a h1 H2 _ ls hC e2 (dnR_upd (h := h) (a := a0) hR rfl dnE_I hq0 (dnFs_I ht hft) z2 ⟨_, hcl, t_OB.to (V := updV (vp_V (dnFs b h a0 t)) k (.int v)) ⟨_, z1, q2, q3, t_set q4 hap hk _⟩ (fun j _ => vp_updV_set hfl _ j)⟩ z3) (hS.put z2 z3 (Nat.le_add_right b a0)) hl hq
theorem dn_putIF {idx t k : Nat} {v : Int32} {f : Unit → dnM β} {g : β → dnM α} (r : Option Nat) (hL : dnFL own idx t k 0 true) (hnm1 : nm = "<init>") (hox : own = (match vwCl[t]? with | some q => q.1 | none => "")) (hdg : decode cc pc = .ok (.putfield idx, 3)) (kk : dnD w x b G cc own nL rm nm em (pc + 3) cells slots lv st (dnB (f ()) g)) : dnD w x b G cc own nL rm nm em pc cells slots lv (.int v :: dnV b r :: st) (dnB (dnB (dnPI r t k v) f) g) := by
  intro p l e s m args below meth c Q h a h1 H locs ls hC hF hR hS hl hq
  obtain ⟨hx, hb, hml, hown, hts, hnm, hK, hX, hbs, hSt, hG⟩ := id hC
  rw [dnB_assoc] at hF
  obtain ⟨u, h2, e1, e2⟩ := dnB_inv hF
  obtain ⟨⟨a0, n⟩, hat, he⟩ := Option.map_eq_some_iff.mp e1
  cases he
  obtain ⟨rfl, hq0⟩ := dnAt_inv hat
  obtain ⟨C, T, N, ty, ⟨ht, hcl, hin, hty, hnn, hlen, -⟩, hk, hd, hft, hlk, hfin, fty, hpd, hfty⟩ := hL
  have hw := dnWs_get (w := w) (b := b) hq0
  rw [dnE_obj ht] at hw
  have hfl : k < (dnFs b h a0 t).length := by
    simp only [dnFs, List.length_mapIdx, hlen]
    exact hk
  have hnf : narrow fty (.int v) = (.int v) ∧ fits fty (.int v) = true := by
    rcases hfty with ⟨q1, rfl⟩ | ⟨q1, rfl⟩ | ⟨q1, rfl⟩ | ⟨q1, ⟨C1, rfl⟩ | ⟨t1, rfl⟩⟩ <;> first | exact absurd q1 (by decide) | exact ⟨rfl, rfl⟩ | (cases v <;> exact ⟨rfl, rfl⟩)
  have hap := va_apart (own := own) hts hin ty hty hnn hK hcl
  obtain ⟨q, g1, cell, q1, q2, q3, q4⟩ := hR.2 a0 _ hw
  have hqe : q = (C, T, N) := Option.some.inj (g1.symm.trans hcl)
  subst hqe
  obtain ⟨hSl, hfc, kC, hkC, hkind⟩ := hK.1 t _ hcl
  obtain ⟨cf, kf, fi, fd, hi, hsl⟩ := hSl k hk
  have hlay := hts _ (hin _ (u_in_lay hk))
  unfold u_lay at hlay
  rw [if_pos hfin] at hlay
  have hst := (u_facts hfc hkC (u_lays hts hin hk) hi).1
  have hcf : m.cls = cf := by
    obtain ⟨_, _, c', _, _, _, -, -, hf', -, -, -, hown2, -⟩ := Cond.laysFinal_spec hlay
    have z1 : c' = cf := by have := hi.symm.trans hf'; simp at this; exact this.1.symm
    have z2 : own = (T k).1 := by rw [hd, hox, hcl]
    rw [← z2] at hown2
    rw [← z1]
    exact Option.some.inj (hown.symm.trans hown2)
  have h6 := u_fits hfc hkC hkind (Or.inr hlay) hi hpd hnf.1 hnf.2
  refine W.putFinK hx hb hown (hts _ hlk) (hd ▸ hi) hst hcf (by rw [hnm]; exact hnm1) (by rw [q2]; exact h6) q1 q3 (by rw [hsl]; exact k2_hasslot (q4 k hk)) rfl rfl hdg fun H2 z1 z2 z3 => ?_
  rw [hsl] at z1 ⊢
  exact kk p l e s m args below meth c Q _ a h1 H2 _ ls hC e2 (dnR_upd (h := h) (a := a0) hR rfl dnE_I hq0 (dnFs_I ht hft) z2 ⟨_, hcl, t_OB.to (V := updV (vp_V (dnFs b h a0 t)) k (.int v)) ⟨_, z1, q2, q3, t_set q4 hap hk _⟩ (fun j _ => vp_updV_set hfl _ j)⟩ z3) (hS.put z2 z3 (Nat.le_add_right b a0)) hl hq
theorem dn_getL {idx t k : Nat} {fin : Bool} {f : Int64 → dnM β} {g : β → dnM α} (r : Option Nat) (hL : dnFL own idx t k 1 fin) (hdg : decode cc pc = .ok (.getfield idx, 3)) (kk : ∀ v, dnD w x b G cc own nL rm nm em (pc + 3) cells slots lv (.long v :: st) (dnB (f v) g)) : dnD w x b G cc own nL rm nm em pc cells slots lv (dnV b r :: st) (dnB (dnB (dnGL r t k) f) g) := by
  intro p l e s m args below meth c Q h a h1 H locs ls hC hF hR hS hl hq
  obtain ⟨hx, hb, hml, hown, hts, hnm, hK, hX, hbs, hSt, hG⟩ := id hC
  rw [dnB_assoc] at hF
  obtain ⟨v, h2, e1, e2⟩ := dnB_inv hF
  obtain ⟨⟨a0, n⟩, hat, he⟩ := Option.map_eq_some_iff.mp e1
  cases he
  obtain ⟨rfl, hq0⟩ := dnAt_inv hat
  obtain ⟨C, T, N, ty, ⟨ht, hcl, hin, hty, hnn, hlen, -⟩, hk, hd, hft, hlk, -, -⟩ := hL
  have hw := dnWs_get (w := w) (b := b) hq0
  rw [dnE_obj ht] at hw
  exact va_get hx hb hts hin hown hK hR.2 a0 hw hcl k hk (hts _ hlk) (fun _ h9 => by rw [hd] at h9; exact h9) (dnFs_gL hft) hdg (kk _ p l e s m args below meth c Q h a h1 H locs ls hC e2 hR hS hl hq)
theorem dn_putL {idx t k : Nat} {v : Int64} {f : Unit → dnM β} {g : β → dnM α} (r : Option Nat) (hL : dnFL own idx t k 1 false)  (hdg : decode cc pc = .ok (.putfield idx, 3)) (kk : dnD w x b G cc own nL rm nm em (pc + 3) cells slots lv st (dnB (f ()) g)) : dnD w x b G cc own nL rm nm em pc cells slots lv (.long v :: dnV b r :: st) (dnB (dnB (dnPL r t k v) f) g) := by
  intro p l e s m args below meth c Q h a h1 H locs ls hC hF hR hS hl hq
  obtain ⟨hx, hb, hml, hown, hts, hnm, hK, hX, hbs, hSt, hG⟩ := id hC
  rw [dnB_assoc] at hF
  obtain ⟨u, h2, e1, e2⟩ := dnB_inv hF
  obtain ⟨⟨a0, n⟩, hat, he⟩ := Option.map_eq_some_iff.mp e1
  cases he
  obtain ⟨rfl, hq0⟩ := dnAt_inv hat
  obtain ⟨C, T, N, ty, ⟨ht, hcl, hin, hty, hnn, hlen, -⟩, hk, hd, hft, hlk, hfin, fty, hpd, hfty⟩ := hL
  have hw := dnWs_get (w := w) (b := b) hq0
  rw [dnE_obj ht] at hw
  have hfl : k < (dnFs b h a0 t).length := by
    simp only [dnFs, List.length_mapIdx, hlen]
    exact hk
  have hnf : narrow fty (.long v) = (.long v) ∧ fits fty (.long v) = true := by
    rcases hfty with ⟨q1, rfl⟩ | ⟨q1, rfl⟩ | ⟨q1, rfl⟩ | ⟨q1, ⟨C1, rfl⟩ | ⟨t1, rfl⟩⟩ <;> first | exact absurd q1 (by decide) | exact ⟨rfl, rfl⟩ | (cases v <;> exact ⟨rfl, rfl⟩)
  have hap := va_apart (own := own) hts hin ty hty hnn hK hcl
  obtain ⟨q, g1, cell, q1, q2, q3, q4⟩ := hR.2 a0 _ hw
  have hqe : q = (C, T, N) := Option.some.inj (g1.symm.trans hcl)
  subst hqe
  obtain ⟨hSl, hfc, kC, hkC, hkind⟩ := hK.1 t _ hcl
  obtain ⟨cf, kf, fi, fd, hi, hsl⟩ := hSl k hk
  have hlay := hts _ (hin _ (u_in_lay hk))
  unfold u_lay at hlay
  rw [if_neg (by rw [hfin]; decide)] at hlay
  have hst := (u_facts hfc hkC (u_lays hts hin hk) hi).1
  have h6 := u_store hfc hkC hkind hlay hi hpd hnf.1 hnf.2
  refine W.putK hx hb (f := fd) ⟨hown, hts _ hlk, ⟨_, _, _, hd ▸ hi⟩, hst⟩ (by rw [q2]; exact h6) q1 q3 (by rw [hsl]; exact k2_hasslot (q4 k hk)) rfl rfl hdg fun H2 z1 z2 z3 => ?_
  rw [hsl] at z1 ⊢
  exact kk p l e s m args below meth c Q _ a h1 H2 _ ls hC e2 (dnR_upd (h := h) (a := a0) hR rfl dnE_L hq0 (dnFs_L ht hft) z2 ⟨_, hcl, t_OB.to (V := updV (vp_V (dnFs b h a0 t)) k (.long v)) ⟨_, z1, q2, q3, t_set q4 hap hk _⟩ (fun j _ => vp_updV_set hfl _ j)⟩ z3) (hS.put z2 z3 (Nat.le_add_right b a0)) hl hq
theorem dn_putLF {idx t k : Nat} {v : Int64} {f : Unit → dnM β} {g : β → dnM α} (r : Option Nat) (hL : dnFL own idx t k 1 true) (hnm1 : nm = "<init>") (hox : own = (match vwCl[t]? with | some q => q.1 | none => "")) (hdg : decode cc pc = .ok (.putfield idx, 3)) (kk : dnD w x b G cc own nL rm nm em (pc + 3) cells slots lv st (dnB (f ()) g)) : dnD w x b G cc own nL rm nm em pc cells slots lv (.long v :: dnV b r :: st) (dnB (dnB (dnPL r t k v) f) g) := by
  intro p l e s m args below meth c Q h a h1 H locs ls hC hF hR hS hl hq
  obtain ⟨hx, hb, hml, hown, hts, hnm, hK, hX, hbs, hSt, hG⟩ := id hC
  rw [dnB_assoc] at hF
  obtain ⟨u, h2, e1, e2⟩ := dnB_inv hF
  obtain ⟨⟨a0, n⟩, hat, he⟩ := Option.map_eq_some_iff.mp e1
  cases he
  obtain ⟨rfl, hq0⟩ := dnAt_inv hat
  obtain ⟨C, T, N, ty, ⟨ht, hcl, hin, hty, hnn, hlen, -⟩, hk, hd, hft, hlk, hfin, fty, hpd, hfty⟩ := hL
  have hw := dnWs_get (w := w) (b := b) hq0
  rw [dnE_obj ht] at hw
  have hfl : k < (dnFs b h a0 t).length := by
    simp only [dnFs, List.length_mapIdx, hlen]
    exact hk
  have hnf : narrow fty (.long v) = (.long v) ∧ fits fty (.long v) = true := by
    rcases hfty with ⟨q1, rfl⟩ | ⟨q1, rfl⟩ | ⟨q1, rfl⟩ | ⟨q1, ⟨C1, rfl⟩ | ⟨t1, rfl⟩⟩ <;> first | exact absurd q1 (by decide) | exact ⟨rfl, rfl⟩ | (cases v <;> exact ⟨rfl, rfl⟩)
  have hap := va_apart (own := own) hts hin ty hty hnn hK hcl
  obtain ⟨q, g1, cell, q1, q2, q3, q4⟩ := hR.2 a0 _ hw
  have hqe : q = (C, T, N) := Option.some.inj (g1.symm.trans hcl)
  subst hqe
  obtain ⟨hSl, hfc, kC, hkC, hkind⟩ := hK.1 t _ hcl
  obtain ⟨cf, kf, fi, fd, hi, hsl⟩ := hSl k hk
  have hlay := hts _ (hin _ (u_in_lay hk))
  unfold u_lay at hlay
  rw [if_pos hfin] at hlay
  have hst := (u_facts hfc hkC (u_lays hts hin hk) hi).1
  have hcf : m.cls = cf := by
    obtain ⟨_, _, c', _, _, _, -, -, hf', -, -, -, hown2, -⟩ := Cond.laysFinal_spec hlay
    have z1 : c' = cf := by have := hi.symm.trans hf'; simp at this; exact this.1.symm
    have z2 : own = (T k).1 := by rw [hd, hox, hcl]
    rw [← z2] at hown2
    rw [← z1]
    exact Option.some.inj (hown.symm.trans hown2)
  have h6 := u_fits hfc hkC hkind (Or.inr hlay) hi hpd hnf.1 hnf.2
  refine W.putFinK hx hb hown (hts _ hlk) (hd ▸ hi) hst hcf (by rw [hnm]; exact hnm1) (by rw [q2]; exact h6) q1 q3 (by rw [hsl]; exact k2_hasslot (q4 k hk)) rfl rfl hdg fun H2 z1 z2 z3 => ?_
  rw [hsl] at z1 ⊢
  exact kk p l e s m args below meth c Q _ a h1 H2 _ ls hC e2 (dnR_upd (h := h) (a := a0) hR rfl dnE_L hq0 (dnFs_L ht hft) z2 ⟨_, hcl, t_OB.to (V := updV (vp_V (dnFs b h a0 t)) k (.long v)) ⟨_, z1, q2, q3, t_set q4 hap hk _⟩ (fun j _ => vp_updV_set hfl _ j)⟩ z3) (hS.put z2 z3 (Nat.le_add_right b a0)) hl hq
theorem dn_getD {idx t k : Nat} {fin : Bool} {f : UInt64 → dnM β} {g : β → dnM α} (r : Option Nat) (hL : dnFL own idx t k 2 fin) (hdg : decode cc pc = .ok (.getfield idx, 3)) (kk : ∀ v, dnD w x b G cc own nL rm nm em (pc + 3) cells slots lv (.double v :: st) (dnB (f v) g)) : dnD w x b G cc own nL rm nm em pc cells slots lv (dnV b r :: st) (dnB (dnB (dnGD r t k) f) g) := by
  intro p l e s m args below meth c Q h a h1 H locs ls hC hF hR hS hl hq
  obtain ⟨hx, hb, hml, hown, hts, hnm, hK, hX, hbs, hSt, hG⟩ := id hC
  rw [dnB_assoc] at hF
  obtain ⟨v, h2, e1, e2⟩ := dnB_inv hF
  obtain ⟨⟨a0, n⟩, hat, he⟩ := Option.map_eq_some_iff.mp e1
  cases he
  obtain ⟨rfl, hq0⟩ := dnAt_inv hat
  obtain ⟨C, T, N, ty, ⟨ht, hcl, hin, hty, hnn, hlen, -⟩, hk, hd, hft, hlk, -, -⟩ := hL
  have hw := dnWs_get (w := w) (b := b) hq0
  rw [dnE_obj ht] at hw
  exact va_get hx hb hts hin hown hK hR.2 a0 hw hcl k hk (hts _ hlk) (fun _ h9 => by rw [hd] at h9; exact h9) (dnFs_gD hft) hdg (kk _ p l e s m args below meth c Q h a h1 H locs ls hC e2 hR hS hl hq)
theorem dn_putD {idx t k : Nat} {v : UInt64} {f : Unit → dnM β} {g : β → dnM α} (r : Option Nat) (hL : dnFL own idx t k 2 false)  (hdg : decode cc pc = .ok (.putfield idx, 3)) (kk : dnD w x b G cc own nL rm nm em (pc + 3) cells slots lv st (dnB (f ()) g)) : dnD w x b G cc own nL rm nm em pc cells slots lv (.double v :: dnV b r :: st) (dnB (dnB (dnPD r t k v) f) g) := by
  intro p l e s m args below meth c Q h a h1 H locs ls hC hF hR hS hl hq
  obtain ⟨hx, hb, hml, hown, hts, hnm, hK, hX, hbs, hSt, hG⟩ := id hC
  rw [dnB_assoc] at hF
  obtain ⟨u, h2, e1, e2⟩ := dnB_inv hF
  obtain ⟨⟨a0, n⟩, hat, he⟩ := Option.map_eq_some_iff.mp e1
  cases he
  obtain ⟨rfl, hq0⟩ := dnAt_inv hat
  obtain ⟨C, T, N, ty, ⟨ht, hcl, hin, hty, hnn, hlen, -⟩, hk, hd, hft, hlk, hfin, fty, hpd, hfty⟩ := hL
  have hw := dnWs_get (w := w) (b := b) hq0
  rw [dnE_obj ht] at hw
  have hfl : k < (dnFs b h a0 t).length := by
    simp only [dnFs, List.length_mapIdx, hlen]
    exact hk
  have hnf : narrow fty (.double v) = (.double v) ∧ fits fty (.double v) = true := by
    rcases hfty with ⟨q1, rfl⟩ | ⟨q1, rfl⟩ | ⟨q1, rfl⟩ | ⟨q1, ⟨C1, rfl⟩ | ⟨t1, rfl⟩⟩ <;> first | exact absurd q1 (by decide) | exact ⟨rfl, rfl⟩ | (cases v <;> exact ⟨rfl, rfl⟩)
  have hap := va_apart (own := own) hts hin ty hty hnn hK hcl
  obtain ⟨q, g1, cell, q1, q2, q3, q4⟩ := hR.2 a0 _ hw
  have hqe : q = (C, T, N) := Option.some.inj (g1.symm.trans hcl)
  subst hqe
  obtain ⟨hSl, hfc, kC, hkC, hkind⟩ := hK.1 t _ hcl
  obtain ⟨cf, kf, fi, fd, hi, hsl⟩ := hSl k hk
  have hlay := hts _ (hin _ (u_in_lay hk))
  unfold u_lay at hlay
  rw [if_neg (by rw [hfin]; decide)] at hlay
  have hst := (u_facts hfc hkC (u_lays hts hin hk) hi).1
  have h6 := u_store hfc hkC hkind hlay hi hpd hnf.1 hnf.2
  refine W.putK hx hb (f := fd) ⟨hown, hts _ hlk, ⟨_, _, _, hd ▸ hi⟩, hst⟩ (by rw [q2]; exact h6) q1 q3 (by rw [hsl]; exact k2_hasslot (q4 k hk)) rfl rfl hdg fun H2 z1 z2 z3 => ?_
  rw [hsl] at z1 ⊢
  exact kk p l e s m args below meth c Q _ a h1 H2 _ ls hC e2 (dnR_upd (h := h) (a := a0) hR rfl dnE_D hq0 (dnFs_D ht hft) z2 ⟨_, hcl, t_OB.to (V := updV (vp_V (dnFs b h a0 t)) k (.double v)) ⟨_, z1, q2, q3, t_set q4 hap hk _⟩ (fun j _ => vp_updV_set hfl _ j)⟩ z3) (hS.put z2 z3 (Nat.le_add_right b a0)) hl hq
theorem dn_putDF {idx t k : Nat} {v : UInt64} {f : Unit → dnM β} {g : β → dnM α} (r : Option Nat) (hL : dnFL own idx t k 2 true) (hnm1 : nm = "<init>") (hox : own = (match vwCl[t]? with | some q => q.1 | none => "")) (hdg : decode cc pc = .ok (.putfield idx, 3)) (kk : dnD w x b G cc own nL rm nm em (pc + 3) cells slots lv st (dnB (f ()) g)) : dnD w x b G cc own nL rm nm em pc cells slots lv (.double v :: dnV b r :: st) (dnB (dnB (dnPD r t k v) f) g) := by
  intro p l e s m args below meth c Q h a h1 H locs ls hC hF hR hS hl hq
  obtain ⟨hx, hb, hml, hown, hts, hnm, hK, hX, hbs, hSt, hG⟩ := id hC
  rw [dnB_assoc] at hF
  obtain ⟨u, h2, e1, e2⟩ := dnB_inv hF
  obtain ⟨⟨a0, n⟩, hat, he⟩ := Option.map_eq_some_iff.mp e1
  cases he
  obtain ⟨rfl, hq0⟩ := dnAt_inv hat
  obtain ⟨C, T, N, ty, ⟨ht, hcl, hin, hty, hnn, hlen, -⟩, hk, hd, hft, hlk, hfin, fty, hpd, hfty⟩ := hL
  have hw := dnWs_get (w := w) (b := b) hq0
  rw [dnE_obj ht] at hw
  have hfl : k < (dnFs b h a0 t).length := by
    simp only [dnFs, List.length_mapIdx, hlen]
    exact hk
  have hnf : narrow fty (.double v) = (.double v) ∧ fits fty (.double v) = true := by
    rcases hfty with ⟨q1, rfl⟩ | ⟨q1, rfl⟩ | ⟨q1, rfl⟩ | ⟨q1, ⟨C1, rfl⟩ | ⟨t1, rfl⟩⟩ <;> first | exact absurd q1 (by decide) | exact ⟨rfl, rfl⟩ | (cases v <;> exact ⟨rfl, rfl⟩)
  have hap := va_apart (own := own) hts hin ty hty hnn hK hcl
  obtain ⟨q, g1, cell, q1, q2, q3, q4⟩ := hR.2 a0 _ hw
  have hqe : q = (C, T, N) := Option.some.inj (g1.symm.trans hcl)
  subst hqe
  obtain ⟨hSl, hfc, kC, hkC, hkind⟩ := hK.1 t _ hcl
  obtain ⟨cf, kf, fi, fd, hi, hsl⟩ := hSl k hk
  have hlay := hts _ (hin _ (u_in_lay hk))
  unfold u_lay at hlay
  rw [if_pos hfin] at hlay
  have hst := (u_facts hfc hkC (u_lays hts hin hk) hi).1
  have hcf : m.cls = cf := by
    obtain ⟨_, _, c', _, _, _, -, -, hf', -, -, -, hown2, -⟩ := Cond.laysFinal_spec hlay
    have z1 : c' = cf := by have := hi.symm.trans hf'; simp at this; exact this.1.symm
    have z2 : own = (T k).1 := by rw [hd, hox, hcl]
    rw [← z2] at hown2
    rw [← z1]
    exact Option.some.inj (hown.symm.trans hown2)
  have h6 := u_fits hfc hkC hkind (Or.inr hlay) hi hpd hnf.1 hnf.2
  refine W.putFinK hx hb hown (hts _ hlk) (hd ▸ hi) hst hcf (by rw [hnm]; exact hnm1) (by rw [q2]; exact h6) q1 q3 (by rw [hsl]; exact k2_hasslot (q4 k hk)) rfl rfl hdg fun H2 z1 z2 z3 => ?_
  rw [hsl] at z1 ⊢
  exact kk p l e s m args below meth c Q _ a h1 H2 _ ls hC e2 (dnR_upd (h := h) (a := a0) hR rfl dnE_D hq0 (dnFs_D ht hft) z2 ⟨_, hcl, t_OB.to (V := updV (vp_V (dnFs b h a0 t)) k (.double v)) ⟨_, z1, q2, q3, t_set q4 hap hk _⟩ (fun j _ => vp_updV_set hfl _ j)⟩ z3) (hS.put z2 z3 (Nat.le_add_right b a0)) hl hq
theorem dn_getR {idx t k : Nat} {fin : Bool} {f : Option Nat → dnM β} {g : β → dnM α} (r : Option Nat) (hL : dnFL own idx t k 3 fin) (hdg : decode cc pc = .ok (.getfield idx, 3)) (kk : ∀ v, dnD w x b G cc own nL rm nm em (pc + 3) cells slots lv (dnV b v :: st) (dnB (f v) g)) : dnD w x b G cc own nL rm nm em pc cells slots lv (dnV b r :: st) (dnB (dnB (dnGR r t k) f) g) := by
  intro p l e s m args below meth c Q h a h1 H locs ls hC hF hR hS hl hq
  obtain ⟨hx, hb, hml, hown, hts, hnm, hK, hX, hbs, hSt, hG⟩ := id hC
  rw [dnB_assoc] at hF
  obtain ⟨v, h2, e1, e2⟩ := dnB_inv hF
  obtain ⟨⟨a0, n⟩, hat, he⟩ := Option.map_eq_some_iff.mp e1
  cases he
  obtain ⟨rfl, hq0⟩ := dnAt_inv hat
  obtain ⟨C, T, N, ty, ⟨ht, hcl, hin, hty, hnn, hlen, -⟩, hk, hd, hft, hlk, -, -⟩ := hL
  have hw := dnWs_get (w := w) (b := b) hq0
  rw [dnE_obj ht] at hw
  exact va_get hx hb hts hin hown hK hR.2 a0 hw hcl k hk (hts _ hlk) (fun _ h9 => by rw [hd] at h9; exact h9) (dnFs_gR hft) hdg (kk _ p l e s m args below meth c Q h a h1 H locs ls hC e2 hR hS hl hq)
theorem dn_putR {idx t k : Nat} {v : Option Nat} {f : Unit → dnM β} {g : β → dnM α} (r : Option Nat) (hL : dnFL own idx t k 3 false)  (hdg : decode cc pc = .ok (.putfield idx, 3)) (kk : dnD w x b G cc own nL rm nm em (pc + 3) cells slots lv st (dnB (f ()) g)) : dnD w x b G cc own nL rm nm em pc cells slots lv (dnV b v :: dnV b r :: st) (dnB (dnB (dnPR r t k v) f) g) := by
  intro p l e s m args below meth c Q h a h1 H locs ls hC hF hR hS hl hq
  obtain ⟨hx, hb, hml, hown, hts, hnm, hK, hX, hbs, hSt, hG⟩ := id hC
  rw [dnB_assoc] at hF
  obtain ⟨u, h2, e1, e2⟩ := dnB_inv hF
  obtain ⟨⟨a0, n⟩, hat, he⟩ := Option.map_eq_some_iff.mp e1
  cases he
  obtain ⟨rfl, hq0⟩ := dnAt_inv hat
  obtain ⟨C, T, N, ty, ⟨ht, hcl, hin, hty, hnn, hlen, -⟩, hk, hd, hft, hlk, hfin, fty, hpd, hfty⟩ := hL
  have hw := dnWs_get (w := w) (b := b) hq0
  rw [dnE_obj ht] at hw
  have hfl : k < (dnFs b h a0 t).length := by
    simp only [dnFs, List.length_mapIdx, hlen]
    exact hk
  have hnf : narrow fty (dnV b v) = (dnV b v) ∧ fits fty (dnV b v) = true := by
    rcases hfty with ⟨q1, rfl⟩ | ⟨q1, rfl⟩ | ⟨q1, rfl⟩ | ⟨q1, ⟨C1, rfl⟩ | ⟨t1, rfl⟩⟩ <;> first | exact absurd q1 (by decide) | exact ⟨rfl, rfl⟩ | (cases v <;> exact ⟨rfl, rfl⟩)
  have hap := va_apart (own := own) hts hin ty hty hnn hK hcl
  obtain ⟨q, g1, cell, q1, q2, q3, q4⟩ := hR.2 a0 _ hw
  have hqe : q = (C, T, N) := Option.some.inj (g1.symm.trans hcl)
  subst hqe
  obtain ⟨hSl, hfc, kC, hkC, hkind⟩ := hK.1 t _ hcl
  obtain ⟨cf, kf, fi, fd, hi, hsl⟩ := hSl k hk
  have hlay := hts _ (hin _ (u_in_lay hk))
  unfold u_lay at hlay
  rw [if_neg (by rw [hfin]; decide)] at hlay
  have hst := (u_facts hfc hkC (u_lays hts hin hk) hi).1
  have h6 := u_store hfc hkC hkind hlay hi hpd hnf.1 hnf.2
  refine W.putK hx hb (f := fd) ⟨hown, hts _ hlk, ⟨_, _, _, hd ▸ hi⟩, hst⟩ (by rw [q2]; exact h6) q1 q3 (by rw [hsl]; exact k2_hasslot (q4 k hk)) rfl rfl hdg fun H2 z1 z2 z3 => ?_
  rw [hsl] at z1 ⊢
  exact kk p l e s m args below meth c Q _ a h1 H2 _ ls hC e2 (dnR_upd (h := h) (a := a0) hR rfl dnE_R hq0 (dnFs_R ht hft) z2 ⟨_, hcl, t_OB.to (V := updV (vp_V (dnFs b h a0 t)) k (dnV b v)) ⟨_, z1, q2, q3, t_set q4 hap hk _⟩ (fun j _ => vp_updV_set hfl _ j)⟩ z3) (hS.put z2 z3 (Nat.le_add_right b a0)) hl hq
theorem dn_putRF {idx t k : Nat} {v : Option Nat} {f : Unit → dnM β} {g : β → dnM α} (r : Option Nat) (hL : dnFL own idx t k 3 true) (hnm1 : nm = "<init>") (hox : own = (match vwCl[t]? with | some q => q.1 | none => "")) (hdg : decode cc pc = .ok (.putfield idx, 3)) (kk : dnD w x b G cc own nL rm nm em (pc + 3) cells slots lv st (dnB (f ()) g)) : dnD w x b G cc own nL rm nm em pc cells slots lv (dnV b v :: dnV b r :: st) (dnB (dnB (dnPR r t k v) f) g) := by
  intro p l e s m args below meth c Q h a h1 H locs ls hC hF hR hS hl hq
  obtain ⟨hx, hb, hml, hown, hts, hnm, hK, hX, hbs, hSt, hG⟩ := id hC
  rw [dnB_assoc] at hF
  obtain ⟨u, h2, e1, e2⟩ := dnB_inv hF
  obtain ⟨⟨a0, n⟩, hat, he⟩ := Option.map_eq_some_iff.mp e1
  cases he
  obtain ⟨rfl, hq0⟩ := dnAt_inv hat
  obtain ⟨C, T, N, ty, ⟨ht, hcl, hin, hty, hnn, hlen, -⟩, hk, hd, hft, hlk, hfin, fty, hpd, hfty⟩ := hL
  have hw := dnWs_get (w := w) (b := b) hq0
  rw [dnE_obj ht] at hw
  have hfl : k < (dnFs b h a0 t).length := by
    simp only [dnFs, List.length_mapIdx, hlen]
    exact hk
  have hnf : narrow fty (dnV b v) = (dnV b v) ∧ fits fty (dnV b v) = true := by
    rcases hfty with ⟨q1, rfl⟩ | ⟨q1, rfl⟩ | ⟨q1, rfl⟩ | ⟨q1, ⟨C1, rfl⟩ | ⟨t1, rfl⟩⟩ <;> first | exact absurd q1 (by decide) | exact ⟨rfl, rfl⟩ | (cases v <;> exact ⟨rfl, rfl⟩)
  have hap := va_apart (own := own) hts hin ty hty hnn hK hcl
  obtain ⟨q, g1, cell, q1, q2, q3, q4⟩ := hR.2 a0 _ hw
  have hqe : q = (C, T, N) := Option.some.inj (g1.symm.trans hcl)
  subst hqe
  obtain ⟨hSl, hfc, kC, hkC, hkind⟩ := hK.1 t _ hcl
  obtain ⟨cf, kf, fi, fd, hi, hsl⟩ := hSl k hk
  have hlay := hts _ (hin _ (u_in_lay hk))
  unfold u_lay at hlay
  rw [if_pos hfin] at hlay
  have hst := (u_facts hfc hkC (u_lays hts hin hk) hi).1
  have hcf : m.cls = cf := by
    obtain ⟨_, _, c', _, _, _, -, -, hf', -, -, -, hown2, -⟩ := Cond.laysFinal_spec hlay
    have z1 : c' = cf := by have := hi.symm.trans hf'; simp at this; exact this.1.symm
    have z2 : own = (T k).1 := by rw [hd, hox, hcl]
    rw [← z2] at hown2
    rw [← z1]
    exact Option.some.inj (hown.symm.trans hown2)
  have h6 := u_fits hfc hkC hkind (Or.inr hlay) hi hpd hnf.1 hnf.2
  refine W.putFinK hx hb hown (hts _ hlk) (hd ▸ hi) hst hcf (by rw [hnm]; exact hnm1) (by rw [q2]; exact h6) q1 q3 (by rw [hsl]; exact k2_hasslot (q4 k hk)) rfl rfl hdg fun H2 z1 z2 z3 => ?_
  rw [hsl] at z1 ⊢
  exact kk p l e s m args below meth c Q _ a h1 H2 _ ls hC e2 (dnR_upd (h := h) (a := a0) hR rfl dnE_R hq0 (dnFs_R ht hft) z2 ⟨_, hcl, t_OB.to (V := updV (vp_V (dnFs b h a0 t)) k (dnV b v)) ⟨_, z1, q2, q3, t_set q4 hap hk _⟩ (fun j _ => vp_updV_set hfl _ j)⟩ z3) (hS.put z2 z3 (Nat.le_add_right b a0)) hl hq
theorem dn_iald {i : Int32} {f : Int32 → dnM β} {g : β → dnM α} (r : Option Nat) (hdg : decode cc pc = .ok (.iaload, 1)) (kk : ∀ v, dnD w x b G cc own nL rm nm em (pc + 1) cells slots lv (.int v :: st) (dnB (f v) g)) : dnD w x b G cc own nL rm nm em pc cells slots lv (.int i :: dnV b r :: st) (dnB (dnB (dnAI r 100 i) f) g) := by
  intro p l e s m args below meth c Q h a h1 H locs ls hC hF hR hS hl hq
  obtain ⟨hx, hb, hml, hown, hts, hnm, hK, hX, hbs, hSt, hG⟩ := id hC
  rw [dnB_assoc] at hF
  obtain ⟨v, h2, e1, e2⟩ := dnB_inv hF
  unfold dnAI at e1
  cases hat : dnAt h r 100 with
  | none => rw [hat] at e1; cases e1
  | some q =>
    obtain ⟨a0, n⟩ := q
    rw [hat] at e1
    dsimp only at e1
    split at e1
    · rename_i hin
      cases e1
      obtain ⟨rfl, hq0⟩ := dnAt_inv hat
      have hw := dnWs_get (w := w) (b := b) hq0
      exact va_iald hx hb hK hR.2 a0 0 hw rfl (dnIn_vp hin) hdg (kk _ p l e s m args below meth c Q h a h1 H locs ls hC e2 hR hS hl hq)
    · cases e1
theorem dn_cald {i : Int32} {f : Int32 → dnM β} {g : β → dnM α} (r : Option Nat) (hdg : decode cc pc = .ok (.caload, 1)) (kk : ∀ v, dnD w x b G cc own nL rm nm em (pc + 1) cells slots lv (.int v :: st) (dnB (f v) g)) : dnD w x b G cc own nL rm nm em pc cells slots lv (.int i :: dnV b r :: st) (dnB (dnB (dnAI r 101 i) f) g) := by
  intro p l e s m args below meth c Q h a h1 H locs ls hC hF hR hS hl hq
  obtain ⟨hx, hb, hml, hown, hts, hnm, hK, hX, hbs, hSt, hG⟩ := id hC
  rw [dnB_assoc] at hF
  obtain ⟨v, h2, e1, e2⟩ := dnB_inv hF
  unfold dnAI at e1
  cases hat : dnAt h r 101 with
  | none => rw [hat] at e1; cases e1
  | some q =>
    obtain ⟨a0, n⟩ := q
    rw [hat] at e1
    dsimp only at e1
    split at e1
    · rename_i hin
      cases e1
      obtain ⟨rfl, hq0⟩ := dnAt_inv hat
      have hw := dnWs_get (w := w) (b := b) hq0
      exact va_cald hx hb hK hR.2 a0 1 hw rfl (dnIn_vp hin) hdg (kk _ p l e s m args below meth c Q h a h1 H locs ls hC e2 hR hS hl hq)
    · cases e1
theorem dn_lald {i : Int32} {f : Int64 → dnM β} {g : β → dnM α} (r : Option Nat) (hdg : decode cc pc = .ok (.laload, 1)) (kk : ∀ v, dnD w x b G cc own nL rm nm em (pc + 1) cells slots lv (.long v :: st) (dnB (f v) g)) : dnD w x b G cc own nL rm nm em pc cells slots lv (.int i :: dnV b r :: st) (dnB (dnB (dnAL r 102 i) f) g) := by
  intro p l e s m args below meth c Q h a h1 H locs ls hC hF hR hS hl hq
  obtain ⟨hx, hb, hml, hown, hts, hnm, hK, hX, hbs, hSt, hG⟩ := id hC
  rw [dnB_assoc] at hF
  obtain ⟨v, h2, e1, e2⟩ := dnB_inv hF
  unfold dnAL at e1
  cases hat : dnAt h r 102 with
  | none => rw [hat] at e1; cases e1
  | some q =>
    obtain ⟨a0, n⟩ := q
    rw [hat] at e1
    dsimp only at e1
    split at e1
    · rename_i hin
      cases e1
      obtain ⟨rfl, hq0⟩ := dnAt_inv hat
      have hw := dnWs_get (w := w) (b := b) hq0
      exact va_lald hx hb hK hR.2 a0 2 hw rfl (dnIn_vp hin) hdg (kk _ p l e s m args below meth c Q h a h1 H locs ls hC e2 hR hS hl hq)
    · cases e1
theorem dn_dald {i : Int32} {f : UInt64 → dnM β} {g : β → dnM α} (r : Option Nat) (hdg : decode cc pc = .ok (.daload, 1)) (kk : ∀ v, dnD w x b G cc own nL rm nm em (pc + 1) cells slots lv (.double v :: st) (dnB (f v) g)) : dnD w x b G cc own nL rm nm em pc cells slots lv (.int i :: dnV b r :: st) (dnB (dnB (dnAD r 103 i) f) g) := by
  intro p l e s m args below meth c Q h a h1 H locs ls hC hF hR hS hl hq
  obtain ⟨hx, hb, hml, hown, hts, hnm, hK, hX, hbs, hSt, hG⟩ := id hC
  rw [dnB_assoc] at hF
  obtain ⟨v, h2, e1, e2⟩ := dnB_inv hF
  unfold dnAD at e1
  cases hat : dnAt h r 103 with
  | none => rw [hat] at e1; cases e1
  | some q =>
    obtain ⟨a0, n⟩ := q
    rw [hat] at e1
    dsimp only at e1
    split at e1
    · rename_i hin
      cases e1
      obtain ⟨rfl, hq0⟩ := dnAt_inv hat
      have hw := dnWs_get (w := w) (b := b) hq0
      exact va_dald hx hb hK hR.2 a0 3 hw rfl (dnIn_vp hin) hdg (kk _ p l e s m args below meth c Q h a h1 H locs ls hC e2 hR hS hl hq)
    · cases e1
theorem dn_aaldW {i : Int32} {f : Option Nat → dnM β} {g : β → dnM α} (r : Option Nat) (hdg : decode cc pc = .ok (.aaload, 1)) (kk : ∀ v, dnD w x b G cc own nL rm nm em (pc + 1) cells slots lv (dnV b v :: st) (dnB (f v) g)) : dnD w x b G cc own nL rm nm em pc cells slots lv (.int i :: dnV b r :: st) (dnB (dnB (dnAR r 104 i) f) g) := by
  intro p l e s m args below meth c Q h a h1 H locs ls hC hF hR hS hl hq
  obtain ⟨hx, hb, hml, hown, hts, hnm, hK, hX, hbs, hSt, hG⟩ := id hC
  rw [dnB_assoc] at hF
  obtain ⟨v, h2, e1, e2⟩ := dnB_inv hF
  unfold dnAR at e1
  cases hat : dnAt h r 104 with
  | none => rw [hat] at e1; cases e1
  | some q =>
    obtain ⟨a0, n⟩ := q
    rw [hat] at e1
    dsimp only at e1
    split at e1
    · rename_i hin
      cases e1
      obtain ⟨rfl, hq0⟩ := dnAt_inv hat
      have hw := dnWs_get (w := w) (b := b) hq0
      exact va_aldq hx hb hK hR.2 a0 4 hw rfl (dnIn_vp hin) hdg (kk _ p l e s m args below meth c Q h a h1 H locs ls hC e2 hR hS hl hq)
    · cases e1
theorem dn_aaldS {i : Int32} {f : Option Nat → dnM β} {g : β → dnM α} (r : Option Nat) (hdg : decode cc pc = .ok (.aaload, 1)) (kk : ∀ v, dnD w x b G cc own nL rm nm em (pc + 1) cells slots lv (dnV b v :: st) (dnB (f v) g)) : dnD w x b G cc own nL rm nm em pc cells slots lv (.int i :: dnV b r :: st) (dnB (dnB (dnAR r 105 i) f) g) := by
  intro p l e s m args below meth c Q h a h1 H locs ls hC hF hR hS hl hq
  obtain ⟨hx, hb, hml, hown, hts, hnm, hK, hX, hbs, hSt, hG⟩ := id hC
  rw [dnB_assoc] at hF
  obtain ⟨v, h2, e1, e2⟩ := dnB_inv hF
  unfold dnAR at e1
  cases hat : dnAt h r 105 with
  | none => rw [hat] at e1; cases e1
  | some q =>
    obtain ⟨a0, n⟩ := q
    rw [hat] at e1
    dsimp only at e1
    split at e1
    · rename_i hin
      cases e1
      obtain ⟨rfl, hq0⟩ := dnAt_inv hat
      have hw := dnWs_get (w := w) (b := b) hq0
      exact va_aldq hx hb hK hR.2 a0 5 hw rfl (dnIn_vp hin) hdg (kk _ p l e s m args below meth c Q h a h1 H locs ls hC e2 hR hS hl hq)
    · cases e1
theorem dn_alen {t : Nat} (ti : Nat) {ty : FieldType} {f : Int32 → dnM β} {g : β → dnM α} (r : Option Nat) (ht : ¬ t < 100) (hti : ∀ w : dnWd, (dnTys w)[ti]? = some (w.2 t, ty)) (hdg : decode cc pc = .ok (.arraylength, 1)) (kk : ∀ v, dnD w x b G cc own nL rm nm em (pc + 1) cells slots lv (.int v :: st) (dnB (f v) g)) : dnD w x b G cc own nL rm nm em pc cells slots lv (dnV b r :: st) (dnB (dnB (dnLn r t) f) g) := by
  intro p l e s m args below meth c Q h a h1 H locs ls hC hF hR hS hl hq
  obtain ⟨hx, hb, hml, hown, hts, hnm, hK, hX, hbs, hSt, hG⟩ := id hC
  rw [dnB_assoc] at hF
  obtain ⟨v, h2, e1, e2⟩ := dnB_inv hF
  obtain ⟨⟨a0, n⟩, hat, he⟩ := Option.map_eq_some_iff.mp e1
  cases he
  obtain ⟨rfl, hq0⟩ := dnAt_inv hat
  have hw := dnWs_get (w := w) (b := b) hq0
  simp only [dnE, ht, if_false] at hw
  exact va_alen hx hb hK hR.2 a0 ti hw (hti w) rfl hdg (kk _ p l e s m args below meth c Q h a h1 H locs ls hC e2 hR hS hl hq)
theorem dn_iast {i : Int32} {v : Int32} {f : Unit → dnM β} {g : β → dnM α} (r : Option Nat) (hdg : decode cc pc = .ok (.iastore, 1)) (kk : dnD w x b G cc own nL rm nm em (pc + 1) cells slots lv st (dnB (f ()) g)) : dnD w x b G cc own nL rm nm em pc cells slots lv (.int v :: .int i :: dnV b r :: st) (dnB (dnB (dnTI r 100 i v) f) g) := by
  intro p l e s m args below meth c Q h a h1 H locs ls hC hF hR hS hl hq
  obtain ⟨hx, hb, hml, hown, hts, hnm, hK, hX, hbs, hSt, hG⟩ := id hC
  rw [dnB_assoc] at hF
  obtain ⟨u, h2, e1, e2⟩ := dnB_inv hF
  unfold dnTI at e1
  cases hat : dnAt h r 100 with
  | none => rw [hat] at e1; cases e1
  | some q =>
    obtain ⟨a0, n⟩ := q
    rw [hat] at e1
    dsimp only at e1
    split at e1
    · rename_i hin
      cases e1
      obtain ⟨rfl, hq0⟩ := dnAt_inv hat
      have ha : va_at w.1 vwCl (b + a0, dnE w b h a0 (100, n)) H := hR.2 a0 _ (dnWs_get hq0)
      have ht : (dnTys w)[0]? = some (w.2 100, _) := rfl
      have hv := dnIn_vp hin
      refine W.iast hx hb ha ((hK.2 0 _ ht).1 n (fun j => .int (h.2.1 a0 j))) (fun q => by cases q) (by show ¬ (i < 0 ∨ (arrV _ _ _).slots.size ≤ _); rw [arrV_size]; exact hv) rfl rfl hdg fun H2 z1 z2 z3 => ?_
      refine kk p l e s m args below meth c Q _ a h1 H2 _ ls hC e2 (dnR_upd (h := h) (a := a0) hR rfl dnE_I hq0 (dnAf_I (Or.inl rfl)) z2 ?_ z3) (hS.put z2 z3 (Nat.le_add_right b a0)) hl hq
      show H2[b + a0]? = some (vp_cell _ _)
      rw [z1]
      show some ((vp_cell (w.2 100) (n, .inl (h.2.1 a0))).setSlot _ _) = _
      rw [vp_cell_i, vp_cell_i, arrV_store]
      congr 2
      funext q
      by_cases hq : q = i.toNatClampNeg
      · subst hq
        simp [updV, upd]
        try rfl
      · simp [updV, upd, hq]
    · cases e1
theorem dn_cast {i : Int32} {v : Int32} {f : Unit → dnM β} {g : β → dnM α} (r : Option Nat) (hdg : decode cc pc = .ok (.castore, 1)) (kk : dnD w x b G cc own nL rm nm em (pc + 1) cells slots lv st (dnB (f ()) g)) : dnD w x b G cc own nL rm nm em pc cells slots lv (.int v :: .int i :: dnV b r :: st) (dnB (dnB (dnTI r 101 i (vp_nar .char v)) f) g) := by
  intro p l e s m args below meth c Q h a h1 H locs ls hC hF hR hS hl hq
  obtain ⟨hx, hb, hml, hown, hts, hnm, hK, hX, hbs, hSt, hG⟩ := id hC
  rw [dnB_assoc] at hF
  obtain ⟨u, h2, e1, e2⟩ := dnB_inv hF
  unfold dnTI at e1
  cases hat : dnAt h r 101 with
  | none => rw [hat] at e1; cases e1
  | some q =>
    obtain ⟨a0, n⟩ := q
    rw [hat] at e1
    dsimp only at e1
    split at e1
    · rename_i hin
      cases e1
      obtain ⟨rfl, hq0⟩ := dnAt_inv hat
      have ha : va_at w.1 vwCl (b + a0, dnE w b h a0 (101, n)) H := hR.2 a0 _ (dnWs_get hq0)
      have ht : (dnTys w)[1]? = some (w.2 101, _) := rfl
      have hv := dnIn_vp hin
      refine W.cast hx hb ha ((hK.2 1 _ ht).1 n (fun j => .int (h.2.1 a0 j))) (fun q => by cases q) (by show ¬ (i < 0 ∨ (arrV _ _ _).slots.size ≤ _); rw [arrV_size]; exact hv) rfl rfl hdg fun H2 z1 z2 z3 => ?_
      refine kk p l e s m args below meth c Q _ a h1 H2 _ ls hC e2 (dnR_upd (h := h) (a := a0) hR rfl dnE_I hq0 (dnAf_I (Or.inr rfl)) z2 ?_ z3) (hS.put z2 z3 (Nat.le_add_right b a0)) hl hq
      show H2[b + a0]? = some (vp_cell _ _)
      rw [z1]
      show some ((vp_cell (w.2 101) (n, .inl (h.2.1 a0))).setSlot _ _) = _
      rw [vp_cell_i, vp_cell_i, arrV_store]
      congr 2
      funext q
      by_cases hq : q = i.toNatClampNeg
      · subst hq
        simp [updV, upd, vp_nar]
        try rfl
      · simp [updV, upd, hq]
    · cases e1
theorem dn_last {i : Int32} {v : Int64} {f : Unit → dnM β} {g : β → dnM α} (r : Option Nat) (hdg : decode cc pc = .ok (.lastore, 1)) (kk : dnD w x b G cc own nL rm nm em (pc + 1) cells slots lv st (dnB (f ()) g)) : dnD w x b G cc own nL rm nm em pc cells slots lv (.long v :: .int i :: dnV b r :: st) (dnB (dnB (dnTL r 102 i v) f) g) := by
  intro p l e s m args below meth c Q h a h1 H locs ls hC hF hR hS hl hq
  obtain ⟨hx, hb, hml, hown, hts, hnm, hK, hX, hbs, hSt, hG⟩ := id hC
  rw [dnB_assoc] at hF
  obtain ⟨u, h2, e1, e2⟩ := dnB_inv hF
  unfold dnTL at e1
  cases hat : dnAt h r 102 with
  | none => rw [hat] at e1; cases e1
  | some q =>
    obtain ⟨a0, n⟩ := q
    rw [hat] at e1
    dsimp only at e1
    split at e1
    · rename_i hin
      cases e1
      obtain ⟨rfl, hq0⟩ := dnAt_inv hat
      have ha : va_at w.1 vwCl (b + a0, dnE w b h a0 (102, n)) H := hR.2 a0 _ (dnWs_get hq0)
      have ht : (dnTys w)[2]? = some (w.2 102, _) := rfl
      have hv := dnIn_vp hin
      refine W.last hx hb ha ((hK.2 2 _ ht).1 n (fun j => .long (h.2.2.1 a0 j))) (fun q => by cases q) (by show ¬ (i < 0 ∨ (arrV _ _ _).slots.size ≤ _); rw [arrV_size]; exact hv) rfl rfl hdg fun H2 z1 z2 z3 => ?_
      refine kk p l e s m args below meth c Q _ a h1 H2 _ ls hC e2 (dnR_upd (h := h) (a := a0) hR rfl dnE_L hq0 (dnAf_L) z2 ?_ z3) (hS.put z2 z3 (Nat.le_add_right b a0)) hl hq
      show H2[b + a0]? = some (vp_cell _ _)
      rw [z1]
      show some ((vp_cell (w.2 102) (n, .inr (.inl (h.2.2.1 a0)))).setSlot _ _) = _
      rw [vp_cell_l, vp_cell_l, arrV_store]
      congr 2
      funext q
      by_cases hq : q = i.toNatClampNeg
      · subst hq
        simp [updV, vp_updL]
        try rfl
      · simp [updV, vp_updL, hq]
    · cases e1
theorem dn_dast {i : Int32} {v : UInt64} {f : Unit → dnM β} {g : β → dnM α} (r : Option Nat) (hdg : decode cc pc = .ok (.dastore, 1)) (kk : dnD w x b G cc own nL rm nm em (pc + 1) cells slots lv st (dnB (f ()) g)) : dnD w x b G cc own nL rm nm em pc cells slots lv (.double v :: .int i :: dnV b r :: st) (dnB (dnB (dnTD r 103 i v) f) g) := by
  intro p l e s m args below meth c Q h a h1 H locs ls hC hF hR hS hl hq
  obtain ⟨hx, hb, hml, hown, hts, hnm, hK, hX, hbs, hSt, hG⟩ := id hC
  rw [dnB_assoc] at hF
  obtain ⟨u, h2, e1, e2⟩ := dnB_inv hF
  unfold dnTD at e1
  cases hat : dnAt h r 103 with
  | none => rw [hat] at e1; cases e1
  | some q =>
    obtain ⟨a0, n⟩ := q
    rw [hat] at e1
    dsimp only at e1
    split at e1
    · rename_i hin
      cases e1
      obtain ⟨rfl, hq0⟩ := dnAt_inv hat
      have ha : va_at w.1 vwCl (b + a0, dnE w b h a0 (103, n)) H := hR.2 a0 _ (dnWs_get hq0)
      have ht : (dnTys w)[3]? = some (w.2 103, _) := rfl
      have hv := dnIn_vp hin
      refine W.dast hx hb ha ((hK.2 3 _ ht).1 n (fun j => .double (h.2.2.2.1 a0 j))) (fun q => by cases q) (by show ¬ (i < 0 ∨ (arrV _ _ _).slots.size ≤ _); rw [arrV_size]; exact hv) rfl rfl hdg fun H2 z1 z2 z3 => ?_
      refine kk p l e s m args below meth c Q _ a h1 H2 _ ls hC e2 (dnR_upd (h := h) (a := a0) hR rfl dnE_D hq0 (dnAf_D) z2 ?_ z3) (hS.put z2 z3 (Nat.le_add_right b a0)) hl hq
      show H2[b + a0]? = some (vp_cell _ _)
      rw [z1]
      show some ((vp_cell (w.2 103) (n, .inr (.inr (.inr (.inl (h.2.2.2.1 a0)))))).setSlot _ _) = _
      rw [vp_cell_d, vp_cell_d, arrV_store]
      congr 2
      funext q
      by_cases hq : q = i.toNatClampNeg
      · subst hq
        simp [updV, vf_upd]
        try rfl
      · simp [updV, vf_upd, hq]
    · cases e1
end DN
