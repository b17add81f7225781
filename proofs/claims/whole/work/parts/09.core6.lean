/-! CORE 6: new cells, copies, numbers, switches, what stands outside -/
theorem dnWs_new {w : dnWd} {b : Nat} {h : dnH} {q : Nat × Nat} : dnWs w b (dnNw h q) = dnWs w b h ++ [(b + h.1.length, dnE w b (dnNw h q) h.1.length q)] := by
  apply List.ext_getElem?
  intro i
  have hl : (dnWs w b h).length = h.1.length := by simp [dnWs]
  rcases Nat.lt_trichotomy i h.1.length with hi | hi | hi
  · rw [List.getElem?_append_left (by rw [hl]; exact hi)]
    have hK : (dnNw h q).1[i]? = h.1[i]? := by simp only [dnNw]; rw [List.getElem?_append_left hi]
    simp only [dnWs, List.getElem?_mapIdx, hK]
    have ne : i ≠ h.1.length := Nat.ne_of_lt hi
    cases h.1[i]? with
    | none => rfl
    | some k => simp [dnE, dnFs, dnFv, dnAf, dnNw, dnUpA, ne]
  · subst hi
    rw [List.getElem?_append_right (by rw [hl]; exact Nat.le_refl _), hl, Nat.sub_self]
    have hK : (dnNw h q).1[h.1.length]? = some q := by simp [dnNw]
    rw [dnWs_get hK]
    rfl
  · rw [List.getElem?_eq_none (by simp [dnWs, dnNw]; omega), List.getElem?_eq_none (by simp [hl]; omega)]
theorem dnR_new {w : dnWd} {b : Nat} {h : dnH} {q : Nat × Nat} {H H1 : Heap} (hR : dnR w b h H) (hz : H1.size = H.size + 1) (ho : ∀ q, q < H.size → H1[q]? = H[q]?) (hc : va_at w.1 vwCl (b + h.1.length, dnE w b (dnNw h q) h.1.length q) H1) : dnR w b (dnNw h q) H1 := by
  refine ⟨by rw [hz, hR.1]; simp only [dnNw, List.length_append, List.length_cons, List.length_nil]; omega, ?_⟩
  rw [dnWs_new]
  refine (hR.2.kept (fun k z hk => ho z.1 ((hR.2 k z hk).lt))).app (fun k z hk => ?_)
  have hz : k < 1 := (List.getElem?_eq_some_iff.mp hk).1
  rw [show k = 0 by omega] at hk
  cases hk
  exact hc
theorem dnFs_new {b : Nat} {h : dnH} {q : Nat × Nat} {t j : Nat} (hj : j < (dnFt t).length) (ht : ∀ j, j < (dnFt t).length → (dnFt t).getD j 0 < 4) : vp_V (dnFs b (dnNw h q) h.1.length t) j = dnDf ((dnFt t).getD j 0) := by
  have h1 : (dnFt t)[j]? = some ((dnFt t).getD j 0) := by rw [List.getD_eq_getElem?_getD, List.getElem?_eq_getElem hj]; rfl
  simp only [vp_V, dnFs, List.getD_eq_getElem?_getD, List.getElem?_mapIdx]
  rw [h1]
  have h2 := ht j hj
  generalize (dnFt t).getD j 0 = k at h2
  match k, h2 with
  | 0, _ => simp [dnFv, dnNw, dnUpA, dnDf]
  | 1, _ => simp [dnFv, dnNw, dnUpA, dnDf]
  | 2, _ => simp [dnFv, dnNw, dnUpA, dnDf]
  | 3, _ =>
    simp [dnFv, dnNw, dnUpA, dnDf]
    rfl
section DN
variable {w : dnWd} {x : dnX} {b : Nat} {G : State → Prop} {cc : ByteArray} {own : String} {nL : Nat} {rm : Room} {nm : String} {α β γ : Type} {em : α → Option Value} {pc cells slots : Nat} {lv : List (Nat × Value)} {st : List Value} {F : dnM α}
theorem dn_new {idx t N : Nat} {C : String} {T : u_T} {ty : Nat → FieldType} {f : Option Nat → dnM β} {g : β → dnM α} (hc0 : dnCl t C T N ty) (h4 : ∀ j, j < (dnFt t).length → (dnFt t).getD j 0 < 4) (hlk : Cond.classLink own idx C ∈ lw_ok) (hin0 : Cond.instantiable C N ∈ lw_ok) (hini : Cond.initialized C ∈ lw_ok) (hcs : cells + 1 ≤ rm.cells ∧ slots + N ≤ rm.slots) (hdg : decode cc pc = .ok (.new idx, 3)) (kk : ∀ v, dnD w x b G cc own nL rm nm em (pc + 3) (cells + 1) (slots + N) lv (dnV b v :: st) (dnB (f v) g)) : dnD w x b G cc own nL rm nm em pc cells slots lv st (dnB (dnB (dnNo t) f) g) := by
  intro p l e s m args below meth c Q h a h1 H locs ls hC hF hR hS hl hq
  obtain ⟨hx, hb, hml, hown, hts, hnm, hK, hX, hbs, hSt, hG⟩ := id hC
  rw [dnB_assoc] at hF
  obtain ⟨v, h2, e1, e2⟩ := dnB_inv hF
  cases e1
  obtain ⟨ht, hcl, hin, hty, hnn, hlen, hdf⟩ := hc0
  have hKn := hK.1 t _ hcl
  refine W.newcK hx hb hown (hts _ hlk) (hts _ hin0) (hts _ hini) rfl hdg hcs.1 hcs.2 hKn.2.1 rfl fun H1 kC hkC z1 z2 z3 => ?_
  have hR1 : dnR w b (dnNw h (t, 0)) H1 := by
    refine dnR_new hR z2 z3 ?_
    rw [dnE_obj ht, ← hR.1]
    exact ⟨_, hcl, (u_born ty hts hin hKn hkC z1 hty).to (fun j hj => by rw [dnFs_new (by rw [hlen]; exact hj) h4]; exact hdf j hj)⟩
  have hS1 : va_S (fun q => b ≤ q) s.heap H1 locs := ⟨Nat.le_trans hS.1 (by omega), fun q g1 g2 => (z3 q (Nat.lt_of_lt_of_le g1 hS.1)).trans (hS.2.1 q g1 g2), hS.2.2⟩
  have k1 := kk (some h.1.length) p l e s m args below meth c Q _ a h1 H1 locs ls hC e2 hR1 hS1 hl hq
  rw [show (dnV b (some h.1.length)) = .ref H.size by rw [hR.1]; rfl] at k1
  exact k1
theorem dn_newaI {n : Int32} {f : Option Nat → dnM β} {g : β → dnM α} (ms : Nat) (hms : n.toNatClampNeg = ms) (harr : Cond.arrayClass (newarray.typeOf .int) ∈ lw_ok) (hby : ms * componentBytes (newarray.typeOf .int) ≤ 536870912) (hcs : cells + 1 ≤ rm.cells ∧ slots + ms ≤ rm.slots) (hdg : decode cc pc = .ok (.newarray .int, 2)) (kk : ∀ v, dnD w x b G cc own nL rm nm em (pc + 2) (cells + 1) (slots + ms) lv (dnV b v :: st) (dnB (f v) g)) : dnD w x b G cc own nL rm nm em pc cells slots lv (.int n :: st) (dnB (dnB (dnNa 100 n) f) g) := by
  intro p l e s m args below meth c Q h a h1 H locs ls hC hF hR hS hl hq
  obtain ⟨hx, hb, hml, hown, hts, hnm, hK, hX, hbs, hSt, hG⟩ := id hC
  rw [dnB_assoc] at hF
  obtain ⟨v, h2, e1, e2⟩ := dnB_inv hF
  unfold dnNa at e1
  split at e1
  · cases e1
  · rename_i hn
    cases e1
    refine va_newaK (atype := .int) hx hb (hts _ harr) rfl hdg rfl hn hms hby hcs.1 hcs.2 rfl fun H1 cA z1 z2 z3 z4 z5 => ?_
    have hcA : cA = w.2 100 := by
      have e3 : s.vm.findClass ("[" ++ (newarray.typeOf .int).toString) = some (w.2 100) := (hK.2 0 _ rfl).2
      exact Option.some.inj (z5.symm.trans e3)
    subst hcA
    have hR1 : dnR w b (dnNw h (100, n.toNatClampNeg)) H1 := by
      refine dnR_new hR z2 z3 ?_
      show H1[b + h.1.length]? = _
      rw [← hR.1, z1, ← hms]
      simp [dnE, dnAf, dnNw, dnUpA, vp_cell, defaultValue, newarray.typeOf]
    have hS1 : va_S (fun q => b ≤ q) s.heap H1 locs := ⟨Nat.le_trans hS.1 (by omega), fun q g1 g2 => (z3 q (Nat.lt_of_lt_of_le g1 hS.1)).trans (hS.2.1 q g1 g2), hS.2.2⟩
    have k1 := kk (some h.1.length) p l e s m args below meth c Q _ a h1 H1 locs ls hC e2 hR1 hS1 hl hq
    rw [show (dnV b (some h.1.length)) = .ref H.size by rw [hR.1]; rfl] at k1
    exact k1
theorem dn_newaC {n : Int32} {f : Option Nat → dnM β} {g : β → dnM α} (ms : Nat) (hms : n.toNatClampNeg = ms) (harr : Cond.arrayClass (newarray.typeOf .char) ∈ lw_ok) (hby : ms * componentBytes (newarray.typeOf .char) ≤ 536870912) (hcs : cells + 1 ≤ rm.cells ∧ slots + ms ≤ rm.slots) (hdg : decode cc pc = .ok (.newarray .char, 2)) (kk : ∀ v, dnD w x b G cc own nL rm nm em (pc + 2) (cells + 1) (slots + ms) lv (dnV b v :: st) (dnB (f v) g)) : dnD w x b G cc own nL rm nm em pc cells slots lv (.int n :: st) (dnB (dnB (dnNa 101 n) f) g) := by
  intro p l e s m args below meth c Q h a h1 H locs ls hC hF hR hS hl hq
  obtain ⟨hx, hb, hml, hown, hts, hnm, hK, hX, hbs, hSt, hG⟩ := id hC
  rw [dnB_assoc] at hF
  obtain ⟨v, h2, e1, e2⟩ := dnB_inv hF
  unfold dnNa at e1
  split at e1
  · cases e1
  · rename_i hn
    cases e1
    refine va_newaK (atype := .char) hx hb (hts _ harr) rfl hdg rfl hn hms hby hcs.1 hcs.2 rfl fun H1 cA z1 z2 z3 z4 z5 => ?_
    have hcA : cA = w.2 101 := by
      have e3 : s.vm.findClass ("[" ++ (newarray.typeOf .char).toString) = some (w.2 101) := (hK.2 1 _ rfl).2
      exact Option.some.inj (z5.symm.trans e3)
    subst hcA
    have hR1 : dnR w b (dnNw h (101, n.toNatClampNeg)) H1 := by
      refine dnR_new hR z2 z3 ?_
      show H1[b + h.1.length]? = _
      rw [← hR.1, z1, ← hms]
      simp [dnE, dnAf, dnNw, dnUpA, vp_cell, defaultValue, newarray.typeOf]
    have hS1 : va_S (fun q => b ≤ q) s.heap H1 locs := ⟨Nat.le_trans hS.1 (by omega), fun q g1 g2 => (z3 q (Nat.lt_of_lt_of_le g1 hS.1)).trans (hS.2.1 q g1 g2), hS.2.2⟩
    have k1 := kk (some h.1.length) p l e s m args below meth c Q _ a h1 H1 locs ls hC e2 hR1 hS1 hl hq
    rw [show (dnV b (some h.1.length)) = .ref H.size by rw [hR.1]; rfl] at k1
    exact k1
theorem dn_newaL {n : Int32} {f : Option Nat → dnM β} {g : β → dnM α} (ms : Nat) (hms : n.toNatClampNeg = ms) (harr : Cond.arrayClass (newarray.typeOf .long) ∈ lw_ok) (hby : ms * componentBytes (newarray.typeOf .long) ≤ 536870912) (hcs : cells + 1 ≤ rm.cells ∧ slots + ms ≤ rm.slots) (hdg : decode cc pc = .ok (.newarray .long, 2)) (kk : ∀ v, dnD w x b G cc own nL rm nm em (pc + 2) (cells + 1) (slots + ms) lv (dnV b v :: st) (dnB (f v) g)) : dnD w x b G cc own nL rm nm em pc cells slots lv (.int n :: st) (dnB (dnB (dnNa 102 n) f) g) := by
  intro p l e s m args below meth c Q h a h1 H locs ls hC hF hR hS hl hq
  obtain ⟨hx, hb, hml, hown, hts, hnm, hK, hX, hbs, hSt, hG⟩ := id hC
  rw [dnB_assoc] at hF
  obtain ⟨v, h2, e1, e2⟩ := dnB_inv hF
  unfold dnNa at e1
  split at e1
  · cases e1
  · rename_i hn
    cases e1
    refine va_newaK (atype := .long) hx hb (hts _ harr) rfl hdg rfl hn hms hby hcs.1 hcs.2 rfl fun H1 cA z1 z2 z3 z4 z5 => ?_
    have hcA : cA = w.2 102 := by
      have e3 : s.vm.findClass ("[" ++ (newarray.typeOf .long).toString) = some (w.2 102) := (hK.2 2 _ rfl).2
      exact Option.some.inj (z5.symm.trans e3)
    subst hcA
    have hR1 : dnR w b (dnNw h (102, n.toNatClampNeg)) H1 := by
      refine dnR_new hR z2 z3 ?_
      show H1[b + h.1.length]? = _
      rw [← hR.1, z1, ← hms]
      simp [dnE, dnAf, dnNw, dnUpA, vp_cell, defaultValue, newarray.typeOf]
    have hS1 : va_S (fun q => b ≤ q) s.heap H1 locs := ⟨Nat.le_trans hS.1 (by omega), fun q g1 g2 => (z3 q (Nat.lt_of_lt_of_le g1 hS.1)).trans (hS.2.1 q g1 g2), hS.2.2⟩
    have k1 := kk (some h.1.length) p l e s m args below meth c Q _ a h1 H1 locs ls hC e2 hR1 hS1 hl hq
    rw [show (dnV b (some h.1.length)) = .ref H.size by rw [hR.1]; rfl] at k1
    exact k1
theorem dn_newaD {n : Int32} {f : Option Nat → dnM β} {g : β → dnM α} (ms : Nat) (hms : n.toNatClampNeg = ms) (harr : Cond.arrayClass (newarray.typeOf .double) ∈ lw_ok) (hby : ms * componentBytes (newarray.typeOf .double) ≤ 536870912) (hcs : cells + 1 ≤ rm.cells ∧ slots + ms ≤ rm.slots) (hdg : decode cc pc = .ok (.newarray .double, 2)) (kk : ∀ v, dnD w x b G cc own nL rm nm em (pc + 2) (cells + 1) (slots + ms) lv (dnV b v :: st) (dnB (f v) g)) : dnD w x b G cc own nL rm nm em pc cells slots lv (.int n :: st) (dnB (dnB (dnNa 103 n) f) g) := by
  intro p l e s m args below meth c Q h a h1 H locs ls hC hF hR hS hl hq
  obtain ⟨hx, hb, hml, hown, hts, hnm, hK, hX, hbs, hSt, hG⟩ := id hC
  rw [dnB_assoc] at hF
  obtain ⟨v, h2, e1, e2⟩ := dnB_inv hF
  unfold dnNa at e1
  split at e1
  · cases e1
  · rename_i hn
    cases e1
    refine va_newaK (atype := .double) hx hb (hts _ harr) rfl hdg rfl hn hms hby hcs.1 hcs.2 rfl fun H1 cA z1 z2 z3 z4 z5 => ?_
    have hcA : cA = w.2 103 := by
      have e3 : s.vm.findClass ("[" ++ (newarray.typeOf .double).toString) = some (w.2 103) := (hK.2 3 _ rfl).2
      exact Option.some.inj (z5.symm.trans e3)
    subst hcA
    have hR1 : dnR w b (dnNw h (103, n.toNatClampNeg)) H1 := by
      refine dnR_new hR z2 z3 ?_
      show H1[b + h.1.length]? = _
      rw [← hR.1, z1, ← hms]
      simp [dnE, dnAf, dnNw, dnUpA, vp_cell, defaultValue, newarray.typeOf]
    have hS1 : va_S (fun q => b ≤ q) s.heap H1 locs := ⟨Nat.le_trans hS.1 (by omega), fun q g1 g2 => (z3 q (Nat.lt_of_lt_of_le g1 hS.1)).trans (hS.2.1 q g1 g2), hS.2.2⟩
    have k1 := kk (some h.1.length) p l e s m args below meth c Q _ a h1 H1 locs ls hC e2 hR1 hS1 hl hq
    rw [show (dnV b (some h.1.length)) = .ref H.size by rw [hR.1]; rfl] at k1
    exact k1
theorem dn_newaW {idx : Nat} {n : Int32} {f : Option Nat → dnM β} {g : β → dnM α} (ms : Nat) (hms : n.toNatClampNeg = ms) (hlk : Cond.classLink own idx RX5 ∈ lw_ok) (hby : ms * 4 ≤ 536870912) (hcs : cells + 1 ≤ rm.cells ∧ slots + ms ≤ rm.slots) (hdg : decode cc pc = .ok (.anewarray idx, 3)) (kk : ∀ v, dnD w x b G cc own nL rm nm em (pc + 3) (cells + 1) (slots + ms) lv (dnV b v :: st) (dnB (f v) g)) : dnD w x b G cc own nL rm nm em pc cells slots lv (.int n :: st) (dnB (dnB (dnNa 104 n) f) g) := by
  intro p l e s m args below meth c Q h a h1 H locs ls hC hF hR hS hl hq
  obtain ⟨hx, hb, hml, hown, hts, hnm, hK, hX, hbs, hSt, hG⟩ := id hC
  rw [dnB_assoc] at hF
  obtain ⟨v, h2, e1, e2⟩ := dnB_inv hF
  unfold dnNa at e1
  split at e1
  · cases e1
  · rename_i hn
    cases e1
    subst hms
    refine W.anew hx hb hown (hts _ hlk) (va_AO.use hSt.2.1) rfl hdg rfl hn hby hcs.1 hcs.2 fun cA kA comp f1 f2 f3 f4 => ?_
    have hcA : cA = w.2 104 := by
      obtain ⟨_, _, _, _, _, e3⟩ := (hK.2 4 (w.2 104, .object RX5) rfl).2
      exact Option.some.inj (f1.symm.trans e3)
    subst hcA
    generalize hH1 : H.push ({ cls := w.2 104, slots := Array.replicate n.toNatClampNeg .null, vm := .none } : Cell) = H1
    have z2 : H1.size = H.size + 1 := by rw [← hH1, Array.size_push]
    have z1 : H1[H.size]? = some (arrV (w.2 104) n.toNatClampNeg (fun _ => .null)) := by rw [← hH1, Array.getElem?_push_size, ← arrV_new]
    have z3 : ∀ q : Nat, q < H.size → H1[q]? = H[q]? := fun q hq => by rw [← hH1, Array.getElem?_push, if_neg (Nat.ne_of_lt hq)]
    have hR1 : dnR w b (dnNw h (104, n.toNatClampNeg)) H1 := by
      refine dnR_new hR z2 z3 ?_
      show H1[b + h.1.length]? = _
      rw [← hR.1, z1]
      simp [dnE, dnAf, dnNw, dnUpA, vp_cell, va_rf]
    have hS1 : va_S (fun q => b ≤ q) s.heap H1 locs := ⟨Nat.le_trans hS.1 (by omega), fun q g1 g2 => (z3 q (Nat.lt_of_lt_of_le g1 hS.1)).trans (hS.2.1 q g1 g2), hS.2.2⟩
    have k1 := kk (some h.1.length) p l e s m args below meth c Q _ a h1 H1 locs ls hC e2 hR1 hS1 hl hq
    rw [show (dnV b (some h.1.length)) = .ref H.size by rw [hR.1]; rfl] at k1
    exact k1
theorem dn_aastW {i : Int32} {v : Option Nat} {f : Unit → dnM β} {g : β → dnM α} (r : Option Nat) (hdg : decode cc pc = .ok (.aastore, 1)) (kk : dnD w x b G cc own nL rm nm em (pc + 1) cells slots lv st (dnB (f ()) g)) : dnD w x b G cc own nL rm nm em pc cells slots lv (dnV b v :: .int i :: dnV b r :: st) (dnB (dnB (dnTR r 104 4 i v) f) g) := by
  intro p l e s m args below meth c Q h a h1 H locs ls hC hF hR hS hl hq
  obtain ⟨hx, hb, hml, hown, hts, hnm, hK, hX, hbs, hSt, hG⟩ := id hC
  rw [dnB_assoc] at hF
  obtain ⟨u, h2, e1, e2⟩ := dnB_inv hF
  unfold dnTR at e1
  cases hat : dnAt h r 104 with
  | none => rw [hat] at e1; cases e1
  | some q =>
    cases hav : dnAt h v 4 with
    | none => rw [hat, hav] at e1; cases e1
    | some qv =>
      obtain ⟨a0, n⟩ := q
      obtain ⟨av, nv⟩ := qv
      rw [hat, hav] at e1
      dsimp only at e1
      split at e1
      · rename_i hin
        cases e1
        obtain ⟨rfl, hq0⟩ := dnAt_inv hat
        obtain ⟨rfl, hqv⟩ := dnAt_inv hav
        have ha : va_at w.1 vwCl (b + a0, dnE w b h a0 (104, n)) H := hR.2 a0 _ (dnWs_get hq0)
        have hwv := dnWs_get (w := w) (b := b) hqv
        rw [dnE_obj (by decide)] at hwv
        have hv := dnIn_vp hin
        have hlt : i.toNatClampNeg < n := Nat.not_le.mp fun q => hv (Or.inr q)
        have h0 : ¬ i < 0 := fun q => hv (Or.inl q)
        obtain ⟨r', hr', cellV, g1, g2, g3, -⟩ := hR.2 av _ hwv
        have hcls := (hK.1 4 _ rfl).2
        obtain ⟨kA, comp, k1, k2, k3, -⟩ := (hK.2 4 (w.2 104, .object RX5) rfl).2
        have hcomp : comp = w.1.1 4 := Option.some.inj (k3.symm.trans hcls.1)
        subst hcomp
        obtain ⟨kC, hkC, -⟩ := hcls.2
        refine W.aast hx hb ha (fun q h => by cases h) (fun h => by cases h) k1 k2 rfl hkC ⟨h0, by show _ < (arrV _ _ _).slots.size; rw [arrV_size]; exact hlt⟩ g1 (fun q h => by rw [g3] at h; cases h) (by rw [g2]; exact hkC) (by rw [g2]; exact va_assign hcls) rfl rfl hdg fun H2 z1 z2 z3 => ?_
        refine kk p l e s m args below meth c Q _ a h1 H2 _ ls hC e2 (dnR_upd (h := h) (a := a0) hR rfl dnE_R hq0 (dnAf_R (Or.inl rfl)) z2 ?_ z3) (hS.put z2 z3 (Nat.le_add_right b a0)) hl hq
        show H2[b + a0]? = some (vp_cell _ _)
        rw [z1]
        show some ((vp_cell (w.2 104) (n, .inr (.inr (.inr (.inr (fun k => (h.2.2.2.2 a0 k).map (b + ·))))))).setSlot _ _) = _
        rw [vp_cell_q, vp_cell_q, arrV_store]
        congr 2
        funext q
        by_cases hq : q = i.toNatClampNeg
        · subst hq
          simp [updV, va_up, va_rf]
        · simp [updV, va_up, hq]
      · cases e1
theorem dn_newaS {idx : Nat} {n : Int32} {f : Option Nat → dnM β} {g : β → dnM α} (ms : Nat) (hms : n.toNatClampNeg = ms) (hlk : Cond.classLink own idx RX9 ∈ lw_ok) (hby : ms * 4 ≤ 536870912) (hcs : cells + 1 ≤ rm.cells ∧ slots + ms ≤ rm.slots) (hdg : decode cc pc = .ok (.anewarray idx, 3)) (kk : ∀ v, dnD w x b G cc own nL rm nm em (pc + 3) (cells + 1) (slots + ms) lv (dnV b v :: st) (dnB (f v) g)) : dnD w x b G cc own nL rm nm em pc cells slots lv (.int n :: st) (dnB (dnB (dnNa 105 n) f) g) := by
  intro p l e s m args below meth c Q h a h1 H locs ls hC hF hR hS hl hq
  obtain ⟨hx, hb, hml, hown, hts, hnm, hK, hX, hbs, hSt, hG⟩ := id hC
  rw [dnB_assoc] at hF
  obtain ⟨v, h2, e1, e2⟩ := dnB_inv hF
  unfold dnNa at e1
  split at e1
  · cases e1
  · rename_i hn
    cases e1
    subst hms
    refine W.anew hx hb hown (hts _ hlk) (va_AO.use hSt.2.2) rfl hdg rfl hn hby hcs.1 hcs.2 fun cA kA comp f1 f2 f3 f4 => ?_
    have hcA : cA = w.2 105 := by
      obtain ⟨_, _, _, _, _, e3⟩ := (hK.2 5 (w.2 105, .object RX9) rfl).2
      exact Option.some.inj (f1.symm.trans e3)
    subst hcA
    generalize hH1 : H.push ({ cls := w.2 105, slots := Array.replicate n.toNatClampNeg .null, vm := .none } : Cell) = H1
    have z2 : H1.size = H.size + 1 := by rw [← hH1, Array.size_push]
    have z1 : H1[H.size]? = some (arrV (w.2 105) n.toNatClampNeg (fun _ => .null)) := by rw [← hH1, Array.getElem?_push_size, ← arrV_new]
    have z3 : ∀ q : Nat, q < H.size → H1[q]? = H[q]? := fun q hq => by rw [← hH1, Array.getElem?_push, if_neg (Nat.ne_of_lt hq)]
    have hR1 : dnR w b (dnNw h (105, n.toNatClampNeg)) H1 := by
      refine dnR_new hR z2 z3 ?_
      show H1[b + h.1.length]? = _
      rw [← hR.1, z1]
      simp [dnE, dnAf, dnNw, dnUpA, vp_cell, va_rf]
    have hS1 : va_S (fun q => b ≤ q) s.heap H1 locs := ⟨Nat.le_trans hS.1 (by omega), fun q g1 g2 => (z3 q (Nat.lt_of_lt_of_le g1 hS.1)).trans (hS.2.1 q g1 g2), hS.2.2⟩
    have k1 := kk (some h.1.length) p l e s m args below meth c Q _ a h1 H1 locs ls hC e2 hR1 hS1 hl hq
    rw [show (dnV b (some h.1.length)) = .ref H.size by rw [hR.1]; rfl] at k1
    exact k1
theorem dn_aastS {i : Int32} {v : Option Nat} {f : Unit → dnM β} {g : β → dnM α} (r : Option Nat) (hdg : decode cc pc = .ok (.aastore, 1)) (kk : dnD w x b G cc own nL rm nm em (pc + 1) cells slots lv st (dnB (f ()) g)) : dnD w x b G cc own nL rm nm em pc cells slots lv (dnV b v :: .int i :: dnV b r :: st) (dnB (dnB (dnTR r 105 7 i v) f) g) := by
  intro p l e s m args below meth c Q h a h1 H locs ls hC hF hR hS hl hq
  obtain ⟨hx, hb, hml, hown, hts, hnm, hK, hX, hbs, hSt, hG⟩ := id hC
  rw [dnB_assoc] at hF
  obtain ⟨u, h2, e1, e2⟩ := dnB_inv hF
  unfold dnTR at e1
  cases hat : dnAt h r 105 with
  | none => rw [hat] at e1; cases e1
  | some q =>
    cases hav : dnAt h v 7 with
    | none => rw [hat, hav] at e1; cases e1
    | some qv =>
      obtain ⟨a0, n⟩ := q
      obtain ⟨av, nv⟩ := qv
      rw [hat, hav] at e1
      dsimp only at e1
      split at e1
      · rename_i hin
        cases e1
        obtain ⟨rfl, hq0⟩ := dnAt_inv hat
        obtain ⟨rfl, hqv⟩ := dnAt_inv hav
        have ha : va_at w.1 vwCl (b + a0, dnE w b h a0 (105, n)) H := hR.2 a0 _ (dnWs_get hq0)
        have hwv := dnWs_get (w := w) (b := b) hqv
        rw [dnE_obj (by decide)] at hwv
        have hv := dnIn_vp hin
        have hlt : i.toNatClampNeg < n := Nat.not_le.mp fun q => hv (Or.inr q)
        have h0 : ¬ i < 0 := fun q => hv (Or.inl q)
        obtain ⟨r', hr', cellV, g1, g2, g3, -⟩ := hR.2 av _ hwv
        have hcls := (hK.1 7 _ rfl).2
        obtain ⟨kA, comp, k1, k2, k3, -⟩ := (hK.2 5 (w.2 105, .object RX9) rfl).2
        have hcomp : comp = w.1.1 7 := Option.some.inj (k3.symm.trans hcls.1)
        subst hcomp
        obtain ⟨kC, hkC, -⟩ := hcls.2
        refine W.aast hx hb ha (fun q h => by cases h) (fun h => by cases h) k1 k2 rfl hkC ⟨h0, by show _ < (arrV _ _ _).slots.size; rw [arrV_size]; exact hlt⟩ g1 (fun q h => by rw [g3] at h; cases h) (by rw [g2]; exact hkC) (by rw [g2]; exact va_assign hcls) rfl rfl hdg fun H2 z1 z2 z3 => ?_
        refine kk p l e s m args below meth c Q _ a h1 H2 _ ls hC e2 (dnR_upd (h := h) (a := a0) hR rfl dnE_R hq0 (dnAf_R (Or.inr rfl)) z2 ?_ z3) (hS.put z2 z3 (Nat.le_add_right b a0)) hl hq
        show H2[b + a0]? = some (vp_cell _ _)
        rw [z1]
        show some ((vp_cell (w.2 105) (n, .inr (.inr (.inr (.inr (fun k => (h.2.2.2.2 a0 k).map (b + ·))))))).setSlot _ _) = _
        rw [vp_cell_q, vp_cell_q, arrV_store]
        congr 2
        funext q
        by_cases hq : q = i.toNatClampNeg
        · subst hq
          simp [updV, va_up, va_rf]
        · simp [updV, va_up, hq]
      · cases e1
theorem dn_objInit {idx : Nat} (r : Option Nat) (rr : r.isSome = true) (hlk : Cond.methodLink own idx Lib.objectInit ∈ lw_ok) (h2 : Cond.instanceMethod Lib.objectInit ∈ lw_ok) (h3 : Cond.code Lib.objectInit ⟨#[0xb1]⟩ 1 none ∈ lw_ok) (hdg : decode cc pc = .ok (.invokespecial idx, 3)) (hrm : 1 ≤ rm.frames ∧ 20 ≤ rm.locals) (hw : st.length ≤ 4) (k : dnD w x b G cc own nL rm nm em (pc + 3) cells slots lv st F) : dnD w x b G cc own nL rm nm em pc cells slots lv (dnV b r :: st) F := by
  intro p l e s m args below meth c Q h a h1 H locs ls hC hF hR hS hl hq
  obtain ⟨hx, hb, hml, hown, hts, hnm, hK, hX, hbs, hSt, hG⟩ := id hC
  obtain ⟨r0, rfl⟩ := Option.isSome_iff_exists.mp rr
  exact W.objInit hx hb hown (hts _ hlk) (hts _ h2) (hts _ h3) (g := F0 m pc ls (.ref (b + r0) :: st)) rfl (by rw [hml]; exact hl.1) rfl hdg hrm.1 (by have := dn_room hw; show 2 * 0 + _ + _ ≤ _; omega) (k p l e s m args below meth c Q h a h1 H locs ls hC hF hR hS hl hq)
theorem dn_dadd {x1 y1 : UInt64} {f : UInt64 → dnM β} {g : β → dnM α} (hdg : decode cc pc = .ok (.dadd, 1)) (kk : ∀ v, dnD w x b G cc own nL rm nm em (pc + 1) cells slots lv (.double v :: st) (dnB (f v) g)) : dnD w x b G cc own nL rm nm em pc cells slots lv (.double y1 :: .double x1 :: st) (dnB (dnB (dnN64 (FP.dadd x1 y1)) f) g) := by
  intro p l e s m args below meth c Q h a h1 H locs ls hC hF hR hS hl hq
  obtain ⟨hx, hb, hml, hown, hts, hnm, hK, hX, hbs, hSt, hG⟩ := id hC
  rw [dnB_assoc] at hF
  obtain ⟨v, h2, e1, e2⟩ := dnB_inv hF
  unfold dnN64 at e1
  split at e1
  · rename_i hn
    cases e1
    exact lv_dadd hx hb hdg hn (kk _ p l e s m args below meth c Q h a h1 H locs ls hC e2 hR hS hl hq)
  · cases e1
theorem dn_dmul {x1 y1 : UInt64} {f : UInt64 → dnM β} {g : β → dnM α} (hdg : decode cc pc = .ok (.dmul, 1)) (kk : ∀ v, dnD w x b G cc own nL rm nm em (pc + 1) cells slots lv (.double v :: st) (dnB (f v) g)) : dnD w x b G cc own nL rm nm em pc cells slots lv (.double y1 :: .double x1 :: st) (dnB (dnB (dnN64 (FP.dmul x1 y1)) f) g) := by
  intro p l e s m args below meth c Q h a h1 H locs ls hC hF hR hS hl hq
  obtain ⟨hx, hb, hml, hown, hts, hnm, hK, hX, hbs, hSt, hG⟩ := id hC
  rw [dnB_assoc] at hF
  obtain ⟨v, h2, e1, e2⟩ := dnB_inv hF
  unfold dnN64 at e1
  split at e1
  · rename_i hn
    cases e1
    exact lv_dmul hx hb hdg hn (kk _ p l e s m args below meth c Q h a h1 H locs ls hC e2 hR hS hl hq)
  · cases e1
theorem dn_ddiv {x1 y1 : UInt64} {f : UInt64 → dnM β} {g : β → dnM α} (hdg : decode cc pc = .ok (.ddiv, 1)) (kk : ∀ v, dnD w x b G cc own nL rm nm em (pc + 1) cells slots lv (.double v :: st) (dnB (f v) g)) : dnD w x b G cc own nL rm nm em pc cells slots lv (.double y1 :: .double x1 :: st) (dnB (dnB (dnN64 (FP.ddiv x1 y1)) f) g) := by
  intro p l e s m args below meth c Q h a h1 H locs ls hC hF hR hS hl hq
  obtain ⟨hx, hb, hml, hown, hts, hnm, hK, hX, hbs, hSt, hG⟩ := id hC
  rw [dnB_assoc] at hF
  obtain ⟨v, h2, e1, e2⟩ := dnB_inv hF
  unfold dnN64 at e1
  split at e1
  · rename_i hn
    cases e1
    exact lv_ddiv hx hb hdg hn (kk _ p l e s m args below meth c Q h a h1 H locs ls hC e2 hR hS hl hq)
  · cases e1
theorem dn_fadd {x1 y1 : UInt32} {f : UInt32 → dnM β} {g : β → dnM α} (hdg : decode cc pc = .ok (.fadd, 1)) (kk : ∀ v, dnD w x b G cc own nL rm nm em (pc + 1) cells slots lv (.float v :: st) (dnB (f v) g)) : dnD w x b G cc own nL rm nm em pc cells slots lv (.float y1 :: .float x1 :: st) (dnB (dnB (dnN32 (FP.fadd x1 y1)) f) g) := by
  intro p l e s m args below meth c Q h a h1 H locs ls hC hF hR hS hl hq
  obtain ⟨hx, hb, hml, hown, hts, hnm, hK, hX, hbs, hSt, hG⟩ := id hC
  rw [dnB_assoc] at hF
  obtain ⟨v, h2, e1, e2⟩ := dnB_inv hF
  unfold dnN32 at e1
  split at e1
  · rename_i hn
    cases e1
    exact lv_fadd hx hb hdg hn (kk _ p l e s m args below meth c Q h a h1 H locs ls hC e2 hR hS hl hq)
  · cases e1
theorem dn_fdiv {x1 y1 : UInt32} {f : UInt32 → dnM β} {g : β → dnM α} (hdg : decode cc pc = .ok (.fdiv, 1)) (kk : ∀ v, dnD w x b G cc own nL rm nm em (pc + 1) cells slots lv (.float v :: st) (dnB (f v) g)) : dnD w x b G cc own nL rm nm em pc cells slots lv (.float y1 :: .float x1 :: st) (dnB (dnB (dnN32 (FP.fdiv x1 y1)) f) g) := by
  intro p l e s m args below meth c Q h a h1 H locs ls hC hF hR hS hl hq
  obtain ⟨hx, hb, hml, hown, hts, hnm, hK, hX, hbs, hSt, hG⟩ := id hC
  rw [dnB_assoc] at hF
  obtain ⟨v, h2, e1, e2⟩ := dnB_inv hF
  unfold dnN32 at e1
  split at e1
  · rename_i hn
    cases e1
    exact lv_fdiv hx hb hdg hn (kk _ p l e s m args below meth c Q h a h1 H locs ls hC e2 hR hS hl hq)
  · cases e1
theorem dn_f2d {x1 : UInt32} {f : UInt64 → dnM β} {g : β → dnM α} (hdg : decode cc pc = .ok (.f2d, 1)) (kk : ∀ v, dnD w x b G cc own nL rm nm em (pc + 1) cells slots lv (.double v :: st) (dnB (f v) g)) : dnD w x b G cc own nL rm nm em pc cells slots lv (.float x1 :: st) (dnB (dnB (dnN64 (FP.f2d x1)) f) g) := by
  intro p l e s m args below meth c Q h a h1 H locs ls hC hF hR hS hl hq
  obtain ⟨hx, hb, hml, hown, hts, hnm, hK, hX, hbs, hSt, hG⟩ := id hC
  rw [dnB_assoc] at hF
  obtain ⟨v, h2, e1, e2⟩ := dnB_inv hF
  unfold dnN64 at e1
  split at e1
  · rename_i hn
    cases e1
    exact lv_f2d hx hb hdg hn (kk _ p l e s m args below meth c Q h a h1 H locs ls hC e2 hR hS hl hq)
  · cases e1
theorem dn_d2f {x1 : UInt64} {f : UInt32 → dnM β} {g : β → dnM α} (hdg : decode cc pc = .ok (.d2f, 1)) (kk : ∀ v, dnD w x b G cc own nL rm nm em (pc + 1) cells slots lv (.float v :: st) (dnB (f v) g)) : dnD w x b G cc own nL rm nm em pc cells slots lv (.double x1 :: st) (dnB (dnB (dnN32 (FP.d2f x1)) f) g) := by
  intro p l e s m args below meth c Q h a h1 H locs ls hC hF hR hS hl hq
  obtain ⟨hx, hb, hml, hown, hts, hnm, hK, hX, hbs, hSt, hG⟩ := id hC
  rw [dnB_assoc] at hF
  obtain ⟨v, h2, e1, e2⟩ := dnB_inv hF
  unfold dnN32 at e1
  split at e1
  · rename_i hn
    cases e1
    exact lv_d2f hx hb hdg hn (kk _ p l e s m args below meth c Q h a h1 H locs ls hC e2 hR hS hl hq)
  · cases e1
theorem dn_idiv {x1 y1 : Int32} {f : Unit → dnM β} {g : β → dnM α} (hdg : decode cc pc = .ok (.idiv, 1)) (kk : dnD w x b G cc own nL rm nm em (pc + 1) cells slots lv (.int (x1 / y1) :: st) (dnB (f ()) g)) : dnD w x b G cc own nL rm nm em pc cells slots lv (.int y1 :: .int x1 :: st) (dnB (dnB (dnNz y1) f) g) := by
  intro p l e s m args below meth c Q h a h1 H locs ls hC hF hR hS hl hq
  obtain ⟨hx, hb, hml, hown, hts, hnm, hK, hX, hbs, hSt, hG⟩ := id hC
  rw [dnB_assoc] at hF
  obtain ⟨v, h2, e1, e2⟩ := dnB_inv hF
  unfold dnNz at e1
  split at e1
  · cases e1
  · rename_i hn
    cases e1
    exact lv_idiv hx hb hdg hn (kk p l e s m args below meth c Q h a h1 H locs ls hC e2 hR hS hl hq)
theorem dn_irem {x1 y1 : Int32} {f : Unit → dnM β} {g : β → dnM α} (hdg : decode cc pc = .ok (.irem, 1)) (kk : dnD w x b G cc own nL rm nm em (pc + 1) cells slots lv (.int (x1 - x1 / y1 * y1) :: st) (dnB (f ()) g)) : dnD w x b G cc own nL rm nm em pc cells slots lv (.int y1 :: .int x1 :: st) (dnB (dnB (dnNz y1) f) g) := by
  intro p l e s m args below meth c Q h a h1 H locs ls hC hF hR hS hl hq
  obtain ⟨hx, hb, hml, hown, hts, hnm, hK, hX, hbs, hSt, hG⟩ := id hC
  rw [dnB_assoc] at hF
  obtain ⟨v, h2, e1, e2⟩ := dnB_inv hF
  unfold dnNz at e1
  split at e1
  · cases e1
  · rename_i hn
    cases e1
    exact lv_irem hx hb hdg hn (kk p l e s m args below meth c Q h a h1 H locs ls hC e2 hR hS hl hq)
theorem dn_ldc {idx : Nat} {v : Int32} (hwd : Cond.constant own idx v ∈ lw_ok) (hdg : decode cc pc = .ok (.ldc idx, 2)) (k : dnD w x b G cc own nL rm nm em (pc + 2) cells slots lv (.int v :: st) F) : dnD w x b G cc own nL rm nm em pc cells slots lv st F := dn_word _ hwd (fun hx hb ho hc kk => lv_ldc hx hb ho hc hdg kk) k
theorem dn_ldcw {idx : Nat} {v : Int32} (hwd : Cond.constant own idx v ∈ lw_ok) (hdg : decode cc pc = .ok (.ldc_w idx, 3)) (k : dnD w x b G cc own nL rm nm em (pc + 3) cells slots lv (.int v :: st) F) : dnD w x b G cc own nL rm nm em pc cells slots lv st F := dn_word _ hwd (fun hx hb ho hc kk => lv_ldcw hx hb ho hc hdg kk) k
theorem dn_ldcf {idx : Nat} {v : UInt32} (hwd : Cond.constantFloat own idx v ∈ lw_ok) (hdg : decode cc pc = .ok (.ldc idx, 2)) (k : dnD w x b G cc own nL rm nm em (pc + 2) cells slots lv (.float v :: st) F) : dnD w x b G cc own nL rm nm em pc cells slots lv st F := dn_word _ hwd (fun hx hb ho hc kk => lv_ldcf hx hb ho hc hdg kk) k
theorem dn_ldc2 {idx : Nat} {v : Int64} (hwd : Cond.constantLong own idx v ∈ lw_ok) (hdg : decode cc pc = .ok (.ldc2_w idx, 3)) (k : dnD w x b G cc own nL rm nm em (pc + 3) cells slots lv (.long v :: st) F) : dnD w x b G cc own nL rm nm em pc cells slots lv st F := dn_word _ hwd (fun hx hb ho hc kk => lv_ldc2 hx hb ho hc hdg kk) k
theorem dn_ldc2d {idx : Nat} {v : UInt64} (hwd : Cond.constantDouble own idx v ∈ lw_ok) (hdg : decode cc pc = .ok (.ldc2_w idx, 3)) (k : dnD w x b G cc own nL rm nm em (pc + 3) cells slots lv (.double v :: st) F) : dnD w x b G cc own nL rm nm em pc cells slots lv st F := dn_word _ hwd (fun hx hb ho hc kk => lv_ldc2d hx hb ho hc hdg kk) k
/-- a switch by a table, a case taken off -/
theorem dn_tcase {x1 : Int32} {dflt lo hi : Int} {offs : Array Int} {len : Nat} {off : Int} (v : Int32) (tgt : Nat) {X Y : dnM β} {g : β → dnM α} (hdg : decode cc pc = .ok (.tableswitch dflt lo hi offs, len)) (h1 : ¬ v.toInt < lo) (h2 : ¬ hi < v.toInt) (ho : offs[(v.toInt - lo).toNat]? = some off) (ht : (pc : Int) + off = (tgt : Int)) (kt : x1 = v → dnD w x b G cc own nL rm nm em tgt cells slots lv st (dnB X g)) (kf : ¬ x1 = v → dnD w x b G cc own nL rm nm em pc cells slots lv (.int x1 :: st) (dnB Y g)) : dnD w x b G cc own nL rm nm em pc cells slots lv (.int x1 :: st) (dnB (if x1 = v then X else Y) g) := by
  intro p l e s m args below meth c Q h a h3 H locs ls hC hF hR hS hl hq
  rw [dnB_ite] at hF
  by_cases hc : x1 = v
  · rw [if_pos hc] at hF
    rw [hc]
    exact lv_tableIn (tgt := tgt) hC.1 hC.2.1 hdg h1 h2 ho ht (kt hc p l e s m args below meth c Q h a h3 H locs ls hC hF hR hS hl hq)
  · rw [if_neg hc] at hF
    exact kf hc p l e s m args below meth c Q h a h3 H locs ls hC hF hR hS hl hq
theorem dn_tout {x1 : Int32} {dflt lo hi : Int} {offs : Array Int} {len : Nat} (vs : List Int32) (tgt : Nat) (hdg : decode cc pc = .ok (.tableswitch dflt lo hi offs, len)) (hv : ∀ v ∈ vs, ¬ x1 = v) (hall : (List.range ((hi - lo).toNat + 1)).all (fun i => vs.any (fun v => v.toInt == lo + i)) = true) (ht : (pc : Int) + dflt = (tgt : Int)) (k : dnD w x b G cc own nL rm nm em tgt cells slots lv st F) : dnD w x b G cc own nL rm nm em pc cells slots lv (.int x1 :: st) F := by
  have hout : x1.toInt < lo ∨ hi < x1.toInt := by
    by_cases q1 : x1.toInt < lo
    · exact Or.inl q1
    · by_cases q2 : hi < x1.toInt
      · exact Or.inr q2
      · have q3 := List.all_eq_true.mp hall (x1.toInt - lo).toNat (List.mem_range.mpr (by omega))
        obtain ⟨v, hv1, hv2⟩ := List.any_eq_true.mp q3
        have q4 : v.toInt = lo + ((x1.toInt - lo).toNat : Int) := by simpa using hv2
        exact absurd (Int32.toInt_inj.mp (by omega)) (hv v hv1)
  exact dn_pure (fun hx hb _ kk => lv_tableOut (tgt := tgt) hx hb hdg hout ht kk) k
theorem dn_lcase {x1 : Int32} {dflt : Int} {ps : Array (Int × Int)} {len : Nat} {off : Int} (v : Int32) (tgt : Nat) {X Y : dnM β} {g : β → dnM α} (hdg : decode cc pc = .ok (.lookupswitch dflt ps, len)) (hp : (ps.toList.zip (ps.toList.drop 1)).all (fun (a, next) => a.1 < next.1) = true) (ho : Op.lookupswitch.offset ps.toList dflt v.toInt = off) (ht : (pc : Int) + off = (tgt : Int)) (kt : x1 = v → dnD w x b G cc own nL rm nm em tgt cells slots lv st (dnB X g)) (kf : ¬ x1 = v → dnD w x b G cc own nL rm nm em pc cells slots lv (.int x1 :: st) (dnB Y g)) : dnD w x b G cc own nL rm nm em pc cells slots lv (.int x1 :: st) (dnB (if x1 = v then X else Y) g) := by
  intro p l e s m args below meth c Q h a h3 H locs ls hC hF hR hS hl hq
  rw [dnB_ite] at hF
  by_cases hc : x1 = v
  · rw [if_pos hc] at hF
    rw [hc]
    exact lv_lookup (tgt := tgt) hC.1 hC.2.1 hdg hp ho ht (kt hc p l e s m args below meth c Q h a h3 H locs ls hC hF hR hS hl hq)
  · rw [if_neg hc] at hF
    exact kf hc p l e s m args below meth c Q h a h3 H locs ls hC hF hR hS hl hq
theorem dn_lout {x1 : Int32} {dflt : Int} {ps : Array (Int × Int)} {len : Nat} (tgt : Nat) (hdg : decode cc pc = .ok (.lookupswitch dflt ps, len)) (hp : (ps.toList.zip (ps.toList.drop 1)).all (fun (a, next) => a.1 < next.1) = true) (ho : Op.lookupswitch.offset ps.toList dflt x1.toInt = dflt) (ht : (pc : Int) + dflt = (tgt : Int)) (k : dnD w x b G cc own nL rm nm em tgt cells slots lv st F) : dnD w x b G cc own nL rm nm em pc cells slots lv (.int x1 :: st) F := dn_pure (fun hx hb _ kk => lv_lookup (tgt := tgt) hx hb hdg hp ho ht kk) k
/-- the table TAKEN -/
def dnXT (i : Int32) : dnM Int32 := fun h => if dnIn i 12 then some (dnTk i.toNatClampNeg, h) else none
theorem dn_getTK {idx : Nat} (hlk : Cond.fieldLink own idx "KindGrids" "TAKEN" "[I" ∈ lw_ok) (hdg : decode cc pc = .ok (.getstatic idx, 3)) (k : dnD w x b G cc own nL rm nm em (pc + 3) cells slots lv (.ref x.1 :: st) F) : dnD w x b G cc own nL rm nm em pc cells slots lv st F := by
  intro p l e s m args below meth c Q h a h1 H locs ls hC hF hR hS hl hq
  obtain ⟨hx, hb, hml, hown, hts, hnm, hK, hX, hbs, hSt, hG⟩ := id hC
  exact va_gets hx hb hX.1.1 hS hown (hts _ hlk) (fun _ h9 => h9) hdg (k p l e s m args below meth c Q h a h1 H locs ls hC hF hR hS hl hq)
theorem dn_ialdTK {i : Int32} {f : Int32 → dnM β} {g : β → dnM α} (hdg : decode cc pc = .ok (.iaload, 1)) (kk : ∀ v, dnD w x b G cc own nL rm nm em (pc + 1) cells slots lv (.int v :: st) (dnB (f v) g)) : dnD w x b G cc own nL rm nm em pc cells slots lv (.int i :: .ref x.1 :: st) (dnB (dnB (dnXT i) f) g) := by
  intro p l e s m args below meth c Q h a h1 H locs ls hC hF hR hS hl hq
  obtain ⟨hx, hb, hml, hown, hts, hnm, hK, hX, hbs, hSt, hG⟩ := id hC
  rw [dnB_assoc] at hF
  obtain ⟨v, h2, e1, e2⟩ := dnB_inv hF
  unfold dnXT at e1
  split at e1
  · rename_i hin
    cases e1
    exact va_ti hx hb hX.1.2 hS (dnIn_vp hin) rfl hdg (kk _ p l e s m args below meth c Q h a h1 H locs ls hC e2 hR hS hl hq)
  · cases e1
/-- a copy between arrays of one kind -/
def dnCp {τ : Type} (f : Nat → Nat → τ) (a0 a1 sp dp n : Nat) : Nat → Nat → τ := dnUpA f a1 (va_cpy (f a0) (f a1) sp dp n)
def dnCpOk (h : dnH) (r0 r1 : Option Nat) (t : Nat) (sp dp n : Int32) : Option (Nat × Nat) := match dnAt h r0 t, dnAt h r1 t with
  | some a0, some a1 => if ¬ sp < 0 ∧ ¬ dp < 0 ∧ ¬ n < 0 ∧ sp.toNatClampNeg + n.toNatClampNeg ≤ a0.2 ∧ dp.toNatClampNeg + n.toNatClampNeg ≤ a1.2 then some (a0.1, a1.1) else none
  | _, _ => none
def dnCI (r0 r1 : Option Nat) (sp dp n : Int32) : dnM Unit := fun h => (dnCpOk h r0 r1 100 sp dp n).map fun a => ((), (h.1, dnCp h.2.1 a.1 a.2 sp.toNatClampNeg dp.toNatClampNeg n.toNatClampNeg, h.2.2))
def dnCL (r0 r1 : Option Nat) (sp dp n : Int32) : dnM Unit := fun h => (dnCpOk h r0 r1 102 sp dp n).map fun a => ((), (h.1, h.2.1, dnCp h.2.2.1 a.1 a.2 sp.toNatClampNeg dp.toNatClampNeg n.toNatClampNeg, h.2.2.2))
def dnCD (r0 r1 : Option Nat) (sp dp n : Int32) : dnM Unit := fun h => (dnCpOk h r0 r1 103 sp dp n).map fun a => ((), (h.1, h.2.1, h.2.2.1, dnCp h.2.2.2.1 a.1 a.2 sp.toNatClampNeg dp.toNatClampNeg n.toNatClampNeg, h.2.2.2.2))
theorem dnCpOk_inv {h : dnH} {r0 r1 : Option Nat} {t : Nat} {sp dp n : Int32} {a : Nat × Nat} (e : dnCpOk h r0 r1 t sp dp n = some a) : ∃ n0 n1, r0 = some a.1 ∧ r1 = some a.2 ∧ h.1[a.1]? = some (t, n0) ∧ h.1[a.2]? = some (t, n1) ∧ ¬ sp < 0 ∧ ¬ dp < 0 ∧ ¬ n < 0 ∧ sp.toNatClampNeg + n.toNatClampNeg ≤ n0 ∧ dp.toNatClampNeg + n.toNatClampNeg ≤ n1 := by
  unfold dnCpOk at e
  cases h0 : dnAt h r0 t with
  | none => rw [h0] at e; cases e
  | some q0 =>
    cases h1 : dnAt h r1 t with
    | none => rw [h0, h1] at e; cases e
    | some q1 =>
      rw [h0, h1] at e
      dsimp only at e
      split at e
      · rename_i hc
        cases e
        obtain ⟨a0, n0⟩ := q0
        obtain ⟨a1, n1⟩ := q1
        obtain ⟨g1, g2⟩ := dnAt_inv h0
        obtain ⟨g3, g4⟩ := dnAt_inv h1
        exact ⟨n0, n1, g1, g3, g2, g4, hc⟩
      · cases e
theorem dn_copyI {idx : Nat} {sp dp n : Int32} {f : Unit → dnM β} {g : β → dnM α} (r0 r1 : Option Nat) (hlk : Cond.methodLink own idx arraycopyName ∈ lw_ok) (hnat : Cond.native arraycopyName ∈ lw_ok) (hstat : Cond.static arraycopyName ∈ lw_ok) (hini : Cond.initialized "java/lang/System" ∈ lw_ok) (hrm : 1 ≤ rm.frames ∧ 8 + (nativeFrameWords "java/lang/System" "arraycopy" 5 + 11) ≤ rm.locals) (hw : st.length ≤ 4) (hdg : decode cc pc = .ok (.invokestatic idx, 3)) (kk : dnD w x b G cc own nL rm nm em (pc + 3) cells slots lv st (dnB (f ()) g)) : dnD w x b G cc own nL rm nm em pc cells slots lv (.int n :: .int dp :: dnV b r1 :: .int sp :: dnV b r0 :: st) (dnB (dnB (dnCI r0 r1 sp dp n) f) g) := by
  intro p l e s m args below meth c Q h a h1 H locs ls hC hF hR hS hl hq
  obtain ⟨hx, hb, hml, hown, hts, hnm, hK, hX, hbs, hSt, hG⟩ := id hC
  rw [dnB_assoc] at hF
  obtain ⟨u, h2, e1, e2⟩ := dnB_inv hF
  obtain ⟨⟨a0, a1⟩, hok, he⟩ := Option.map_eq_some_iff.mp e1
  cases he
  obtain ⟨n0, n1, e5, e6, hq0, hq1, c1, c2, c3, c4, c5⟩ := dnCpOk_inv hok
  cases e5
  cases e6
  dsimp only at hq0 hq1
  have nn : ∀ z : Int32, ¬ z < 0 → z.toInt = (z.toNatClampNeg : Int) := by
    intro z hz
    have hz0 : (0 : Int) ≤ z.toInt := by
      have := Int32.not_lt.mp hz
      simpa using Int32.le_iff_toInt_le.mp this
    show z.toInt = ((z.toInt.toNat : Nat) : Int)
    omega
  have hc0 : H[b + a0]? = some (arrV (w.2 100) n0 (fun j => .int (h.2.1 a0 j))) := hR.2 a0 _ (dnWs_get hq0)
  have hc1 : H[b + a1]? = some (arrV (w.2 100) n1 (fun j => .int (h.2.1 a1 j))) := hR.2 a1 _ (dnWs_get hq1)
  intro T hT X
  obtain ⟨-, k0, hk0, cm0, hkk0⟩ := (hK.2 0 (w.2 100, .int) rfl).1 n0 (fun j => .int (h.2.1 a0 j))
  obtain ⟨-, k1, hk1, cm1, hkk1⟩ := (hK.2 0 (w.2 100, .int) rfl).1 n1 (fun j => .int (h.2.1 a1 j))
  obtain ⟨vm', X', step⟩ := X.arraycopy hx hown (hts _ hlk) (hts _ hnat) (hts _ hstat) (hts _ hini) (src := b + a0) (dst := b + a1) (cs := arrV (w.2 100) n0 (fun j => .int (h.2.1 a0 j))) (cd := arrV (w.2 100) n1 (fun j => .int (h.2.1 a1 j))) (srcPos := sp) (destPos := dp) (n := n) (by rw [hT]; exact hc0) (by rw [hT]; exact hc1)
    (fun _ h => by cases h) (fun _ h => by cases h) (fun h => by cases h) (fun h => by cases h) hk0 hk1 hkk0 hkk1 (by simp [refKind]) c1 c2 c3
    (by rw [nn sp c1, nn n c3, arrV_size]; omega)
    (by rw [nn dp c2, nn n c3, arrV_size]; omega)
    (fun vm₁ _ i hi => by
      have e : (arrV (w.2 100) n0 (fun j => .int (h.2.1 a0 j))).slots.getD (sp.toNatClampNeg + i) .null = .int (h.2.1 a0 (sp.toNatClampNeg + i)) := by
        rw [Array.getD_eq_getD_getElem?, arrV_read _ _ (by omega)]
        rfl
      refine ⟨?_, ?_⟩
      · rw [e]
        rfl
      · rw [e]
        exact trivial)
    (g := F0 m pc ls (.int n :: .int dp :: .ref (b + a1) :: .int sp :: .ref (b + a0) :: st)) rfl (by rw [hml]; exact hl.1) (rest := st) rfl (by rw [hb]; exact hdg) hrm.1 (by have := dn_room hw; show 2 * 0 + _ + _ ≤ _; omega)
  have e7 : copied (arrV (w.2 100) n0 (fun j => .int (h.2.1 a0 j))) (arrV (w.2 100) n1 (fun j => .int (h.2.1 a1 j))) sp dp n = arrV (w.2 100) n1 (fun j => .int (va_cpy (h.2.1 a0) (h.2.1 a1) sp.toNatClampNeg dp.toNatClampNeg n.toNatClampNeg j)) := va_copied (fun z => .int z) (w.2 100) (w.2 100) (h.2.1 a0) (h.2.1 a1) c4
  rw [e7] at X' step
  generalize hh2 : ((T.setVm vm').setCell (b + a1) (arrV (w.2 100) n1 (fun j => .int (va_cpy (h.2.1 a0) (h.2.1 a1) sp.toNatClampNeg dp.toNatClampNeg n.toNatClampNeg j)))).heap = H2
  have hheap : H2 = H.setIfInBounds (b + a1) (arrV (w.2 100) n1 (fun j => .int (va_cpy (h.2.1 a0) (h.2.1 a1) sp.toNatClampNeg dp.toNatClampNeg n.toNatClampNeg j))) := by rw [← hh2, ← hT]; rfl
  have hl1 : b + a1 < H.size := (Array.getElem?_eq_some_iff.mp hc1).1
  have z2 : H2.size = H.size := by rw [hheap]; simp
  have z3 : ∀ q : Nat, q ≠ b + a1 → H2[q]? = H[q]? := fun q hq => by rw [hheap]; simp [Array.getElem?_setIfInBounds, Ne.symm hq]
  have hne : ∀ i, i ≠ a1 → dnCp h.2.1 a0 a1 sp.toNatClampNeg dp.toNatClampNeg n.toNatClampNeg i = h.2.1 i := fun i hi => by simp [dnCp, dnUpA, hi]
  obtain ⟨t, s1, s2⟩ := kk p l e s m args below meth c Q _ a h1 H2 _ ls hC e2 (dnR_upd (h := h) (a := a1) hR rfl (fun i q hi => by simp only [dnE, dnFs, dnFv, dnAf, hne i hi]) hq1 rfl z2 (by
      show H2[b + a1]? = some _
      rw [hheap]
      simp [Array.getElem?_setIfInBounds, hl1, dnE, dnAf, vp_cell, dnCp, dnUpA]) z3) ⟨by rw [z2]; exact hS.1, fun q g1 g2 => by
      rw [z3 q (fun e => g2 (by rw [e]; exact Nat.le_add_right _ _))]
      exact hS.2.1 q g1 g2, fun q hq => by
      rcases List.mem_append.mp hq with h | h
      · exact hS.2.2 q h
      · obtain ⟨z, -, hz⟩ := List.mem_map.mp h
        rw [← hz]
        exact Nat.le_add_right _ _⟩ hl hq _ hh2 X'
  exact ⟨t, step t s1, s2⟩
theorem dn_copyL {idx : Nat} {sp dp n : Int32} {f : Unit → dnM β} {g : β → dnM α} (r0 r1 : Option Nat) (hlk : Cond.methodLink own idx arraycopyName ∈ lw_ok) (hnat : Cond.native arraycopyName ∈ lw_ok) (hstat : Cond.static arraycopyName ∈ lw_ok) (hini : Cond.initialized "java/lang/System" ∈ lw_ok) (hrm : 1 ≤ rm.frames ∧ 8 + (nativeFrameWords "java/lang/System" "arraycopy" 5 + 11) ≤ rm.locals) (hw : st.length ≤ 4) (hdg : decode cc pc = .ok (.invokestatic idx, 3)) (kk : dnD w x b G cc own nL rm nm em (pc + 3) cells slots lv st (dnB (f ()) g)) : dnD w x b G cc own nL rm nm em pc cells slots lv (.int n :: .int dp :: dnV b r1 :: .int sp :: dnV b r0 :: st) (dnB (dnB (dnCL r0 r1 sp dp n) f) g) := by
  intro p l e s m args below meth c Q h a h1 H locs ls hC hF hR hS hl hq
  obtain ⟨hx, hb, hml, hown, hts, hnm, hK, hX, hbs, hSt, hG⟩ := id hC
  rw [dnB_assoc] at hF
  obtain ⟨u, h2, e1, e2⟩ := dnB_inv hF
  obtain ⟨⟨a0, a1⟩, hok, he⟩ := Option.map_eq_some_iff.mp e1
  cases he
  obtain ⟨n0, n1, e5, e6, hq0, hq1, c1, c2, c3, c4, c5⟩ := dnCpOk_inv hok
  cases e5
  cases e6
  dsimp only at hq0 hq1
  have nn : ∀ z : Int32, ¬ z < 0 → z.toInt = (z.toNatClampNeg : Int) := by
    intro z hz
    have hz0 : (0 : Int) ≤ z.toInt := by
      have := Int32.not_lt.mp hz
      simpa using Int32.le_iff_toInt_le.mp this
    show z.toInt = ((z.toInt.toNat : Nat) : Int)
    omega
  have hc0 : H[b + a0]? = some (arrV (w.2 102) n0 (fun j => .long (h.2.2.1 a0 j))) := hR.2 a0 _ (dnWs_get hq0)
  have hc1 : H[b + a1]? = some (arrV (w.2 102) n1 (fun j => .long (h.2.2.1 a1 j))) := hR.2 a1 _ (dnWs_get hq1)
  intro T hT X
  obtain ⟨-, k0, hk0, cm0, hkk0⟩ := (hK.2 2 (w.2 102, .long) rfl).1 n0 (fun j => .long (h.2.2.1 a0 j))
  obtain ⟨-, k1, hk1, cm1, hkk1⟩ := (hK.2 2 (w.2 102, .long) rfl).1 n1 (fun j => .long (h.2.2.1 a1 j))
  obtain ⟨vm', X', step⟩ := X.arraycopy hx hown (hts _ hlk) (hts _ hnat) (hts _ hstat) (hts _ hini) (src := b + a0) (dst := b + a1) (cs := arrV (w.2 102) n0 (fun j => .long (h.2.2.1 a0 j))) (cd := arrV (w.2 102) n1 (fun j => .long (h.2.2.1 a1 j))) (srcPos := sp) (destPos := dp) (n := n) (by rw [hT]; exact hc0) (by rw [hT]; exact hc1)
    (fun _ h => by cases h) (fun _ h => by cases h) (fun h => by cases h) (fun h => by cases h) hk0 hk1 hkk0 hkk1 (by simp [refKind]) c1 c2 c3
    (by rw [nn sp c1, nn n c3, arrV_size]; omega)
    (by rw [nn dp c2, nn n c3, arrV_size]; omega)
    (fun vm₁ _ i hi => by
      have e : (arrV (w.2 102) n0 (fun j => .long (h.2.2.1 a0 j))).slots.getD (sp.toNatClampNeg + i) .null = .long (h.2.2.1 a0 (sp.toNatClampNeg + i)) := by
        rw [Array.getD_eq_getD_getElem?, arrV_read _ _ (by omega)]
        rfl
      refine ⟨?_, ?_⟩
      · rw [e]
        rfl
      · rw [e]
        exact trivial)
    (g := F0 m pc ls (.int n :: .int dp :: .ref (b + a1) :: .int sp :: .ref (b + a0) :: st)) rfl (by rw [hml]; exact hl.1) (rest := st) rfl (by rw [hb]; exact hdg) hrm.1 (by have := dn_room hw; show 2 * 0 + _ + _ ≤ _; omega)
  have e7 : copied (arrV (w.2 102) n0 (fun j => .long (h.2.2.1 a0 j))) (arrV (w.2 102) n1 (fun j => .long (h.2.2.1 a1 j))) sp dp n = arrV (w.2 102) n1 (fun j => .long (va_cpy (h.2.2.1 a0) (h.2.2.1 a1) sp.toNatClampNeg dp.toNatClampNeg n.toNatClampNeg j)) := va_copied (fun z => .long z) (w.2 102) (w.2 102) (h.2.2.1 a0) (h.2.2.1 a1) c4
  rw [e7] at X' step
  generalize hh2 : ((T.setVm vm').setCell (b + a1) (arrV (w.2 102) n1 (fun j => .long (va_cpy (h.2.2.1 a0) (h.2.2.1 a1) sp.toNatClampNeg dp.toNatClampNeg n.toNatClampNeg j)))).heap = H2
  have hheap : H2 = H.setIfInBounds (b + a1) (arrV (w.2 102) n1 (fun j => .long (va_cpy (h.2.2.1 a0) (h.2.2.1 a1) sp.toNatClampNeg dp.toNatClampNeg n.toNatClampNeg j))) := by rw [← hh2, ← hT]; rfl
  have hl1 : b + a1 < H.size := (Array.getElem?_eq_some_iff.mp hc1).1
  have z2 : H2.size = H.size := by rw [hheap]; simp
  have z3 : ∀ q : Nat, q ≠ b + a1 → H2[q]? = H[q]? := fun q hq => by rw [hheap]; simp [Array.getElem?_setIfInBounds, Ne.symm hq]
  have hne : ∀ i, i ≠ a1 → dnCp h.2.2.1 a0 a1 sp.toNatClampNeg dp.toNatClampNeg n.toNatClampNeg i = h.2.2.1 i := fun i hi => by simp [dnCp, dnUpA, hi]
  obtain ⟨t, s1, s2⟩ := kk p l e s m args below meth c Q _ a h1 H2 _ ls hC e2 (dnR_upd (h := h) (a := a1) hR rfl (fun i q hi => by simp only [dnE, dnFs, dnFv, dnAf, hne i hi]) hq1 rfl z2 (by
      show H2[b + a1]? = some _
      rw [hheap]
      simp [Array.getElem?_setIfInBounds, hl1, dnE, dnAf, vp_cell, dnCp, dnUpA]) z3) ⟨by rw [z2]; exact hS.1, fun q g1 g2 => by
      rw [z3 q (fun e => g2 (by rw [e]; exact Nat.le_add_right _ _))]
      exact hS.2.1 q g1 g2, fun q hq => by
      rcases List.mem_append.mp hq with h | h
      · exact hS.2.2 q h
      · obtain ⟨z, -, hz⟩ := List.mem_map.mp h
        rw [← hz]
        exact Nat.le_add_right _ _⟩ hl hq _ hh2 X'
  exact ⟨t, step t s1, s2⟩
theorem dn_copyD {idx : Nat} {sp dp n : Int32} {f : Unit → dnM β} {g : β → dnM α} (r0 r1 : Option Nat) (hlk : Cond.methodLink own idx arraycopyName ∈ lw_ok) (hnat : Cond.native arraycopyName ∈ lw_ok) (hstat : Cond.static arraycopyName ∈ lw_ok) (hini : Cond.initialized "java/lang/System" ∈ lw_ok) (hrm : 1 ≤ rm.frames ∧ 8 + (nativeFrameWords "java/lang/System" "arraycopy" 5 + 11) ≤ rm.locals) (hw : st.length ≤ 4) (hdg : decode cc pc = .ok (.invokestatic idx, 3)) (kk : dnD w x b G cc own nL rm nm em (pc + 3) cells slots lv st (dnB (f ()) g)) : dnD w x b G cc own nL rm nm em pc cells slots lv (.int n :: .int dp :: dnV b r1 :: .int sp :: dnV b r0 :: st) (dnB (dnB (dnCD r0 r1 sp dp n) f) g) := by
  intro p l e s m args below meth c Q h a h1 H locs ls hC hF hR hS hl hq
  obtain ⟨hx, hb, hml, hown, hts, hnm, hK, hX, hbs, hSt, hG⟩ := id hC
  rw [dnB_assoc] at hF
  obtain ⟨u, h2, e1, e2⟩ := dnB_inv hF
  obtain ⟨⟨a0, a1⟩, hok, he⟩ := Option.map_eq_some_iff.mp e1
  cases he
  obtain ⟨n0, n1, e5, e6, hq0, hq1, c1, c2, c3, c4, c5⟩ := dnCpOk_inv hok
  cases e5
  cases e6
  dsimp only at hq0 hq1
  have nn : ∀ z : Int32, ¬ z < 0 → z.toInt = (z.toNatClampNeg : Int) := by
    intro z hz
    have hz0 : (0 : Int) ≤ z.toInt := by
      have := Int32.not_lt.mp hz
      simpa using Int32.le_iff_toInt_le.mp this
    show z.toInt = ((z.toInt.toNat : Nat) : Int)
    omega
  have hc0 : H[b + a0]? = some (arrV (w.2 103) n0 (fun j => .double (h.2.2.2.1 a0 j))) := hR.2 a0 _ (dnWs_get hq0)
  have hc1 : H[b + a1]? = some (arrV (w.2 103) n1 (fun j => .double (h.2.2.2.1 a1 j))) := hR.2 a1 _ (dnWs_get hq1)
  intro T hT X
  obtain ⟨-, k0, hk0, cm0, hkk0⟩ := (hK.2 3 (w.2 103, .double) rfl).1 n0 (fun j => .double (h.2.2.2.1 a0 j))
  obtain ⟨-, k1, hk1, cm1, hkk1⟩ := (hK.2 3 (w.2 103, .double) rfl).1 n1 (fun j => .double (h.2.2.2.1 a1 j))
  obtain ⟨vm', X', step⟩ := X.arraycopy hx hown (hts _ hlk) (hts _ hnat) (hts _ hstat) (hts _ hini) (src := b + a0) (dst := b + a1) (cs := arrV (w.2 103) n0 (fun j => .double (h.2.2.2.1 a0 j))) (cd := arrV (w.2 103) n1 (fun j => .double (h.2.2.2.1 a1 j))) (srcPos := sp) (destPos := dp) (n := n) (by rw [hT]; exact hc0) (by rw [hT]; exact hc1)
    (fun _ h => by cases h) (fun _ h => by cases h) (fun h => by cases h) (fun h => by cases h) hk0 hk1 hkk0 hkk1 (by simp [refKind]) c1 c2 c3
    (by rw [nn sp c1, nn n c3, arrV_size]; omega)
    (by rw [nn dp c2, nn n c3, arrV_size]; omega)
    (fun vm₁ _ i hi => by
      have e : (arrV (w.2 103) n0 (fun j => .double (h.2.2.2.1 a0 j))).slots.getD (sp.toNatClampNeg + i) .null = .double (h.2.2.2.1 a0 (sp.toNatClampNeg + i)) := by
        rw [Array.getD_eq_getD_getElem?, arrV_read _ _ (by omega)]
        rfl
      refine ⟨?_, ?_⟩
      · rw [e]
        rfl
      · rw [e]
        exact trivial)
    (g := F0 m pc ls (.int n :: .int dp :: .ref (b + a1) :: .int sp :: .ref (b + a0) :: st)) rfl (by rw [hml]; exact hl.1) (rest := st) rfl (by rw [hb]; exact hdg) hrm.1 (by have := dn_room hw; show 2 * 0 + _ + _ ≤ _; omega)
  have e7 : copied (arrV (w.2 103) n0 (fun j => .double (h.2.2.2.1 a0 j))) (arrV (w.2 103) n1 (fun j => .double (h.2.2.2.1 a1 j))) sp dp n = arrV (w.2 103) n1 (fun j => .double (va_cpy (h.2.2.2.1 a0) (h.2.2.2.1 a1) sp.toNatClampNeg dp.toNatClampNeg n.toNatClampNeg j)) := va_copied (fun z => .double z) (w.2 103) (w.2 103) (h.2.2.2.1 a0) (h.2.2.2.1 a1) c4
  rw [e7] at X' step
  generalize hh2 : ((T.setVm vm').setCell (b + a1) (arrV (w.2 103) n1 (fun j => .double (va_cpy (h.2.2.2.1 a0) (h.2.2.2.1 a1) sp.toNatClampNeg dp.toNatClampNeg n.toNatClampNeg j)))).heap = H2
  have hheap : H2 = H.setIfInBounds (b + a1) (arrV (w.2 103) n1 (fun j => .double (va_cpy (h.2.2.2.1 a0) (h.2.2.2.1 a1) sp.toNatClampNeg dp.toNatClampNeg n.toNatClampNeg j))) := by rw [← hh2, ← hT]; rfl
  have hl1 : b + a1 < H.size := (Array.getElem?_eq_some_iff.mp hc1).1
  have z2 : H2.size = H.size := by rw [hheap]; simp
  have z3 : ∀ q : Nat, q ≠ b + a1 → H2[q]? = H[q]? := fun q hq => by rw [hheap]; simp [Array.getElem?_setIfInBounds, Ne.symm hq]
  have hne : ∀ i, i ≠ a1 → dnCp h.2.2.2.1 a0 a1 sp.toNatClampNeg dp.toNatClampNeg n.toNatClampNeg i = h.2.2.2.1 i := fun i hi => by simp [dnCp, dnUpA, hi]
  obtain ⟨t, s1, s2⟩ := kk p l e s m args below meth c Q _ a h1 H2 _ ls hC e2 (dnR_upd (h := h) (a := a1) hR rfl (fun i q hi => by simp only [dnE, dnFs, dnFv, dnAf, hne i hi]) hq1 rfl z2 (by
      show H2[b + a1]? = some _
      rw [hheap]
      simp [Array.getElem?_setIfInBounds, hl1, dnE, dnAf, vp_cell, dnCp, dnUpA]) z3) ⟨by rw [z2]; exact hS.1, fun q g1 g2 => by
      rw [z3 q (fun e => g2 (by rw [e]; exact Nat.le_add_right _ _))]
      exact hS.2.1 q g1 g2, fun q hq => by
      rcases List.mem_append.mp hq with h | h
      · exact hS.2.2 q h
      · obtain ⟨z, -, hz⟩ := List.mem_map.mp h
        rw [← hz]
        exact Nat.le_add_right _ _⟩ hl hq _ hh2 X'
  exact ⟨t, step t s1, s2⟩
def dnKo {σ ρ α : Type} (K : σ → dnM α) (E : ρ → dnM α) : σ ⊕ ρ → dnM α := fun r => match r with
  | .inl s => K s
  | .inr q => E q
/-- a return of any value, from anywhere, is what K says -/
def dnRt (w : dnWd) (x : dnX) (b : Nat) (G : State → Prop) (cc : ByteArray) (own : String) (nL : Nat) (rm : Room) (nm : String) {α : Type} (em : α → Option Value) (cells slots : Nat) (K : α → dnM α) : Prop := ∀ (v : α) (pc : Nat) (lv : List (Nat × Value)) (st : List Value), (em v).toList = st → dnRA cc pc (em v) → dnD w x b G cc own nL rm nm em pc cells slots lv st (K v)
theorem dn_rt {K : α → dnM α} (hc : cells ≤ rm.cells) (hs : slots ≤ rm.slots) (hK : ∀ v, K v = dnP v) : dnRt w x b G cc own nL rm nm em cells slots K := fun v pc lv st h1 h2 => by
  rw [hK v, ← dnB_id (dnP v)]
  exact dn_ret hc hs h1 h2
theorem dn_loopE {σ ρ : Type} {body : σ → dnM (σ ⊕ ρ)} {g : ρ → dnM α} (pcE : Nat) (LV : σ → List (Nat × Value)) (LE : ρ → List (Nat × Value))
    (hb : ∀ (s : σ) (K : σ → dnM α) (E : ρ → dnM α), (∀ s1 : σ, dnD w x b G cc own nL rm nm em pc cells slots (LV s1) st (K s1)) → (∀ q : ρ, dnD w x b G cc own nL rm nm em pcE cells slots (LE q) st (E q)) → dnD w x b G cc own nL rm nm em pc cells slots (LV s) st (dnB (body s) (dnKo K E)))
    (he : ∀ q : ρ, dnD w x b G cc own nL rm nm em pcE cells slots (LE q) st (g q)) : ∀ (n : Nat) (s : σ), dnD w x b G cc own nL rm nm em pc cells slots (LV s) st (dnB (dnIt n body s) g) :=
  dn_loop LV (fun s K hK => hb s K g hK he)
theorem dn_loopR {σ ρ : Type} {body : σ → dnM (σ ⊕ (ρ ⊕ α))} {g : ρ ⊕ α → dnM α} (pcE : Nat) (LV : σ → List (Nat × Value)) (LE : ρ → List (Nat × Value))
    (hb : ∀ (s : σ) (K : σ → dnM α) (E : ρ ⊕ α → dnM α), (∀ s1 : σ, dnD w x b G cc own nL rm nm em pc cells slots (LV s1) st (K s1)) → (∀ q : ρ, dnD w x b G cc own nL rm nm em pcE cells slots (LE q) st (E (.inl q))) → dnRt w x b G cc own nL rm nm em cells slots (fun v => E (.inr v)) → dnD w x b G cc own nL rm nm em pc cells slots (LV s) st (dnB (body s) (dnKo K E)))
    (hr : dnRt w x b G cc own nL rm nm em cells slots (fun v => g (.inr v))) (he : ∀ q : ρ, dnD w x b G cc own nL rm nm em pcE cells slots (LE q) st (g (.inl q))) : ∀ (n : Nat) (s : σ), dnD w x b G cc own nL rm nm em pc cells slots (LV s) st (dnB (dnIt n body s) g) :=
  dn_loop LV (fun s K hK => hb s K g hK he hr)
theorem dn_callV0 {idx n t : Nat} {y : MethodName} {cc2 : ByteArray} {nL2 : Nat} {rm2 : Room} {ret2 : Option FieldType} {em2 : γ → Option Value} {X : dnM γ} {f : γ → dnM β} {g : β → dnM α} {st0 : List Value} (As : List Value) (r : Option Nat) (hL : dnLV own idx n t y cc2 nL2 ret2) (hM : dnMt w x b y cc2 nL2 ret2 rm2 em2 (dnV b r :: As) X) (hst : st0 = As.reverse ++ dnV b r :: st) (hn : As.length = n) (hw : st.length ≤ 4) (hrm : rm2.frames + 1 ≤ rm.frames ∧ 8 + (nL2 + 11) + rm2.locals ≤ rm.locals) (h0 : rm2.cells = 0 ∧ rm2.slots = 0 ∧ cells ≤ rm.cells ∧ slots ≤ rm.slots) (hdg : decode cc pc = .ok (.invokevirtual idx, 3))
    (kk : ∀ v, dnD w x b G cc own nL rm nm em (pc + 3) cells slots lv ((em2 v).toList ++ st) (dnB (f v) g)) : dnD w x b G cc own nL rm nm em pc cells slots lv st0 (dnB (dnB (dnCv r t X) f) g) :=
  dn_callV As r hL hM hst hn hw hrm (by rw [h0.1, h0.2.1]; exact h0.2.2) hdg (by rw [h0.1, h0.2.1]; exact kk)
theorem dn_callS0 {idx n : Nat} {y : MethodName} {cc2 : ByteArray} {nL2 : Nat} {rm2 : Room} {ret2 : Option FieldType} {em2 : γ → Option Value} {X : dnM γ} {f : γ → dnM β} {g : β → dnM α} {st0 : List Value} (As : List Value)  (hL : dnLS own idx n y cc2 nL2 ret2) (hM : dnMt w x b y cc2 nL2 ret2 rm2 em2 (As) X) (hst : st0 = As.reverse ++ st) (hn : As.length = n) (hw : st.length ≤ 4) (hrm : rm2.frames + 1 ≤ rm.frames ∧ 8 + (nL2 + 11) + rm2.locals ≤ rm.locals) (h0 : rm2.cells = 0 ∧ rm2.slots = 0 ∧ cells ≤ rm.cells ∧ slots ≤ rm.slots) (hdg : decode cc pc = .ok (.invokestatic idx, 3))
    (kk : ∀ v, dnD w x b G cc own nL rm nm em (pc + 3) cells slots lv ((em2 v).toList ++ st) (dnB (f v) g)) : dnD w x b G cc own nL rm nm em pc cells slots lv st0 (dnB (dnB (X) f) g) :=
  dn_callS As  hL hM hst hn hw hrm (by rw [h0.1, h0.2.1]; exact h0.2.2) hdg (by rw [h0.1, h0.2.1]; exact kk)
theorem dn_callSN0 {idx n : Nat} {y : MethodName} {cc2 : ByteArray} {nL2 : Nat} {rm2 : Room} {ret2 : Option FieldType} {host : String} {em2 : γ → Option Value} {X : dnM γ} {f : γ → dnM β} {g : β → dnM α} {st0 : List Value} (As : List Value)  (hL : dnLSN own host idx n y cc2 nL2 ret2) (hM : dnMt w x b y cc2 nL2 ret2 rm2 em2 (As) X) (hst : st0 = As.reverse ++ st) (hn : As.length = n) (hw : st.length ≤ 4) (hrm : rm2.frames + 1 ≤ rm.frames ∧ 8 + (nL2 + 11) + rm2.locals ≤ rm.locals) (h0 : rm2.cells = 0 ∧ rm2.slots = 0 ∧ cells ≤ rm.cells ∧ slots ≤ rm.slots) (hdg : decode cc pc = .ok (.invokestatic idx, 3))
    (kk : ∀ v, dnD w x b G cc own nL rm nm em (pc + 3) cells slots lv ((em2 v).toList ++ st) (dnB (f v) g)) : dnD w x b G cc own nL rm nm em pc cells slots lv st0 (dnB (dnB (X) f) g) :=
  dn_callSN As  hL hM hst hn hw hrm (by rw [h0.1, h0.2.1]; exact h0.2.2) hdg (by rw [h0.1, h0.2.1]; exact kk)
theorem dn_callI0 {idx n t : Nat} {y : MethodName} {cc2 : ByteArray} {nL2 : Nat} {rm2 : Room} {em2 : γ → Option Value} {X : dnM γ} {f : γ → dnM β} {g : β → dnM α} {st0 : List Value} (As : List Value) (r : Option Nat) (hL : dnLI own idx n y cc2 nL2) (hM : dnMt w x b y cc2 nL2 none rm2 em2 (dnV b r :: As) X) (hst : st0 = As.reverse ++ dnV b r :: st) (hn : As.length = n) (hw : st.length ≤ 4) (hrm : rm2.frames + 1 ≤ rm.frames ∧ 8 + (nL2 + 11) + rm2.locals ≤ rm.locals) (h0 : rm2.cells = 0 ∧ rm2.slots = 0 ∧ cells ≤ rm.cells ∧ slots ≤ rm.slots) (hdg : decode cc pc = .ok (.invokespecial idx, 3))
    (kk : ∀ v, dnD w x b G cc own nL rm nm em (pc + 3) cells slots lv ((em2 v).toList ++ st) (dnB (f v) g)) : dnD w x b G cc own nL rm nm em pc cells slots lv st0 (dnB (dnB (dnCv r t X) f) g) :=
  dn_callI As r hL hM hst hn hw hrm (by rw [h0.1, h0.2.1]; exact h0.2.2) hdg (by rw [h0.1, h0.2.1]; exact kk)
theorem dn_callIN0 {idx n t : Nat} {y : MethodName} {cc2 : ByteArray} {nL2 : Nat} {rm2 : Room} {host : String} {em2 : γ → Option Value} {X : dnM γ} {f : γ → dnM β} {g : β → dnM α} {st0 : List Value} (As : List Value) (r : Option Nat) (hL : dnLIN own host idx n y cc2 nL2) (hM : dnMt w x b y cc2 nL2 none rm2 em2 (dnV b r :: As) X) (hst : st0 = As.reverse ++ dnV b r :: st) (hn : As.length = n) (hw : st.length ≤ 4) (hrm : rm2.frames + 1 ≤ rm.frames ∧ 8 + (nL2 + 11) + rm2.locals ≤ rm.locals) (h0 : rm2.cells = 0 ∧ rm2.slots = 0 ∧ cells ≤ rm.cells ∧ slots ≤ rm.slots) (hdg : decode cc pc = .ok (.invokespecial idx, 3))
    (kk : ∀ v, dnD w x b G cc own nL rm nm em (pc + 3) cells slots lv ((em2 v).toList ++ st) (dnB (f v) g)) : dnD w x b G cc own nL rm nm em pc cells slots lv st0 (dnB (dnB (dnCv r t X) f) g) :=
  dn_callIN As r hL hM hst hn hw hrm (by rw [h0.1, h0.2.1]; exact h0.2.2) hdg (by rw [h0.1, h0.2.1]; exact kk)
end DN
