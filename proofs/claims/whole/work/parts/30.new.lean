
/-! NEW CELLS: references of what stands stay below its size -/
def ok_v (n : Nat) : Value → Bool
  | .ref k => decide (k < n)
  | _ => true
def ok_c (n : Nat) : ab_C → Bool
  | .inl _ => true
  | .inr (.inl (_, l)) => l.all (fun o => match o with | some k => decide (k < n) | none => true)
  | .inr (.inr (_, fs)) => fs.all (ok_v n)
def ok_all (n : Nat) (L : List (Nat × Value)) (st : List Value) (h : ab_H) : Bool := L.all (fun q => ok_v n q.2) && st.all (ok_v n) && h.all (ok_c n)
theorem ok_v_eq {n : Nat} {ad ad' : Nat → Nat} {sk : Nat → Option Nat} (ha : ∀ j, j < n → ad' j = ad j) {v : Value} (h : ok_v n v = true) : xv ad' sk v = xv ad sk v := by
  cases v <;> first | rfl | (show Value.ref _ = Value.ref _; rw [ha _ (by simpa [ok_v] using h)])
theorem ok_c_eq {n : Nat} {ad ad' : Nat → Nat} {sk : Nat → Option Nat} {ac : Nat → ClassId} (ha : ∀ j, j < n → ad' j = ad j) {c : ab_C} (h : ok_c n c = true) : xc ad' sk ac c = xc ad sk ac c := by
  rcases c with ⟨t, m, f⟩ | ⟨t, l⟩ | ⟨c, fs⟩
  · rfl
  · have e : (fun j => (l.getD j none).map ad') = (fun j => (l.getD j none).map ad) := by
      funext j
      rw [List.getD_eq_getElem?_getD]
      cases h1 : l[j]? with
      | none => rfl
      | some o =>
        cases o with
        | none => rfl
        | some k =>
          have h2 := List.all_eq_true.mp h (some k) (List.mem_of_getElem? h1)
          simp only [Option.getD_some, Option.map_some]
          rw [ha k (by simpa using h2)]
    simp only [xc, e]
  · simp only [xc]
    congr 2
    exact List.map_congr_left (fun v hv => ok_v_eq ha (List.all_eq_true.mp h v hv))
theorem ok_w_eq {n : Nat} {ad ad' : Nat → Nat} {sk : Nat → Option Nat} {ac : Nat → ClassId} {h : ab_H} (hn : h.length ≤ n) (ha : ∀ j, j < n → ad' j = ad j) (hh : h.all (ok_c n) = true) : xw ad' sk ac h = xw ad sk ac h := by
  apply List.ext_getElem?
  intro i
  rw [xw_at, xw_at]
  cases hi : h[i]? with
  | none => rfl
  | some c =>
    have hlt := (List.getElem?_eq_some_iff.mp hi).1
    simp only [Option.map_some]
    rw [ha i (by omega), ok_c_eq ha (List.all_eq_true.mp hh c (List.mem_of_getElem? hi))]
theorem ok_L_eq {n : Nat} {ad ad' : Nat → Nat} {sk : Nat → Option Nat} (ha : ∀ j, j < n → ad' j = ad j) {L : List (Nat × Value)} (h : L.all (fun q => ok_v n q.2) = true) : L.map (fun q => (q.1, xv ad' sk q.2)) = L.map (fun q => (q.1, xv ad sk q.2)) := List.map_congr_left (fun q hq => by rw [ok_v_eq ha (List.all_eq_true.mp h q hq)])
theorem ok_S_eq {n : Nat} {ad ad' : Nat → Nat} {sk : Nat → Option Nat} (ha : ∀ j, j < n → ad' j = ad j) {st : List Value} (h : st.all (ok_v n) = true) : st.map (xv ad' sk) = st.map (xv ad sk) := List.map_congr_left (fun q hq => ok_v_eq ha (List.all_eq_true.mp h q hq))
section VNEW
variable {own nm : String} {cc : ByteArray} {nL : Nat} {ret : Option FieldType} {R : Room} {Q : ab_Q} {mc ms k n pc : Nat} {L : List (Nat × Value)} {st : List Value} {h : ab_H}
/-- the picture with one cell more -/
theorem Nw.push {dC : Nat → ClassId} {dI : Nat → Nat → Nat} {ac : Nat → ClassId} {sk : Nat → Option Nat} {A : Nat → Prop} {ad0 : Nat → Nat} {n0 : Nat} {s : State} {ad : Nat → Nat} {H H1 : Heap} {locs : List Loc} {ls : Array Slot} (N : Nw dC dI ac sk A ad0 n0 s nL L h ad H locs ls) (q : Nat) (c : ab_C) (hok : ok_all h.length L st h = true) (hc : ok_c h.length c = true) (hP : va_P (dC, dI) vwCl (xw ad sk ac h ++ [(q, xc ad sk ac c)]) H1) (hD : va_D A (xw ad sk ac h ++ [(q, xc ad sk ac c)])) (hS : va_S A s.heap H1 locs) : Nw dC dI ac sk A ad0 n0 s nL L (h ++ [c]) (fun j => if j = h.length then q else ad j) H1 locs ls ∧ st.map (xv (fun j => if j = h.length then q else ad j) sk) = st.map (xv ad sk) := by
  simp only [ok_all, Bool.and_eq_true] at hok
  obtain ⟨⟨o1, o2⟩, o3⟩ := hok
  have ha : ∀ j, j < h.length → (fun j => if j = h.length then q else ad j) j = ad j := fun j hj => by
    show (if j = h.length then q else ad j) = ad j
    rw [if_neg (by omega)]
  have e1 : xw (fun j => if j = h.length then q else ad j) sk ac (h ++ [c]) = xw ad sk ac h ++ [(q, xc ad sk ac c)] := by
    rw [xw_push, ok_w_eq (Nat.le_refl _) ha o3, ok_c_eq ha hc]
    simp
  refine ⟨⟨⟨?_, ?_, ?_⟩, by rw [e1]; exact hP, by rw [e1]; exact hD, hS, by rw [ok_L_eq ha o1]; exact N.2.2.2.2⟩, ok_S_eq ha o2⟩
  · rw [List.length_append]; exact Nat.le_trans N.1.1 (Nat.le_add_right _ _)
  · intro j hj
    rw [ha j (Nat.lt_of_lt_of_le hj N.1.1)]
    exact N.1.2.1 j hj
  · intro e
    rw [List.length_append] at e
    have := N.1.1
    simp at e
    omega
def ab_bl : Value → Bool
  | .null => true
  | .int _ => true
  | .long _ => true
  | _ => false
/-- what 'new' makes -/
def NL (own : String) (idx ci sz : Nat) (fs : List Value) : Prop := ∃ (C : String) (T : u_T) (tyf : Nat → FieldType), vwCl[ci]? = some (C, T, sz) ∧ (∀ w ∈ u_ws C T sz, w ∈ gw) ∧ (∀ k, k < sz → parseFieldDescriptor (T k).2.2.1 = some (tyf k)) ∧ Cond.classLink own idx C ∈ gw ∧ Cond.instantiable C sz ∈ gw ∧ Cond.initialized C ∈ gw ∧ (∀ j, j < sz → defaultValue (tyf j) = vp_V fs j)
set_option maxHeartbeats 4000000 in
theorem v_new {idx ci sz k2 n2 : Nat} {fs : List Value} {h2 : ab_H} {b : Nat} (hd : decode cc pc = .ok (.new idx, 3)) (f : NL own idx ci sz fs) (hbl : fs.all ab_bl = true) (hok : ok_all h.length L st h = true) (hk : k + 1 = k2) (hn : n + sz = n2) (hR : k2 ≤ R.cells ∧ n2 ≤ R.slots) (hb : h.length = b) (hh : h ++ [aO ci fs] = h2) (kk : Vd own nm cc nL ret R Q mc ms k2 n2 (pc + 3) L (.ref b :: st) h2) : Vd own nm cc nL ret R Q mc ms k n pc L st h := by
  subst hk; subst hn; subst hb; subst hh
  intro p l e s m args below meth c dC dI ac sk A ad0 n0 Qs E ad H locs ls N
  have hfs : ∀ v ∈ fs, ok_v 0 v = true ∧ ∀ ad sk, xv ad sk v = v := fun v hv => by
    have h0 := List.all_eq_true.mp hbl v hv
    cases v <;> first | exact ⟨rfl, fun _ _ => rfl⟩ | (simp [ab_bl] at h0)
  obtain ⟨C, T, tyf, f1, f2, f3, f4, f5, f6, f7⟩ := f
  refine va_new (ci := ci) (fs := fs) E.1.1 E.1.2.1 E.1.2.2.2.2.2.1 f2 tyf f3 E.1.2.2.2.2.1 (E.1.2.2.2.2.2.1 _ f4) (E.1.2.2.2.2.2.1 _ f5) (E.1.2.2.2.2.2.1 _ f6) E.2.2.2.1 N.2.1 N.2.2.1 N.2.2.2.1 E.2.1 f1 f7 hR.1 hR.2 hd (fun q H1 hP hD hS => ?_)
  have e1 : xc ad sk ac (aO ci fs) = .inr (ci, fs) := by
    simp only [xc]
    congr 2
    exact (List.map_congr_left (fun v hv => (hfs v hv).2 ad sk)).trans (List.map_id fs)
  have hc : ok_c h.length (aO ci fs) = true := List.all_eq_true.mpr (fun v hv => by
    have h0 := (hfs v hv).1
    cases v <;> first | rfl | (simp [ok_v] at h0))
  rw [← e1] at hP hD
  obtain ⟨N2, e2⟩ := N.push (st := st) q (aO ci fs) hok hc hP hD hS
  have w := kk p l e s m args below meth c dC dI ac sk A ad0 n0 Qs E _ H1 locs ls N2
  rw [List.map_cons, e2] at w
  have e3 : xv (fun j => if j = h.length then q else ad j) sk (.ref h.length) = .ref q := by
    show Value.ref (if h.length = h.length then q else ad h.length) = _
    rw [if_pos rfl]
  rw [e3] at w
  exact w
set_option maxHeartbeats 4000000 in
theorem v_newa {at' : ArrayType} {tc m0 k2 n2 b : Nat} {ty : FieldType} {z : Int32} {h2 : ab_H} (hd : decode cc pc = .ok (.newarray at', 2)) (hw : Cond.arrayClass (newarray.typeOf at') ∈ gw) (hty : newarray.typeOf at' = ty) (htc : (tc = 0 ∧ ty = .int) ∨ (tc = 1 ∧ ty = .byte) ∨ (tc = 2 ∧ ty = .boolean)) (hz : ¬ z < 0) (hm : z.toNatClampNeg = m0) (hm2 : m0 ≤ 10000) (hok : ok_all h.length L st h = true) (hk : k + 1 = k2) (hn : n + m0 = n2) (hR : k2 ≤ R.cells ∧ n2 ≤ R.slots) (hb : h.length = b) (hh : h ++ [aI tc m0 (fun _ => 0)] = h2) (kk : Vd own nm cc nL ret R Q mc ms k2 n2 (pc + 2) L (.ref b :: st) h2) : Vd own nm cc nL ret R Q mc ms k n pc L (.int z :: st) h := by
  subst hk; subst hn; subst hb; subst hh
  intro p l e s m args below meth c dC dI ac sk A ad0 n0 Qs E ad H locs ls N
  have hdv : ∀ cA : ClassId, vp_cell cA (m0, .inl (fun _ => 0)) = arrV cA m0 (fun _ => defaultValue ty) := by
    intro cA
    rcases htc with ⟨-, rfl⟩ | ⟨-, rfl⟩ | ⟨-, rfl⟩ <;> rfl
  refine va_newa (a0 := (m0, .inl (fun _ => 0))) E.1.1 E.1.2.1 (E.1.2.2.2.2.2.1 _ hw) hty E.2.2.2.1 N.2.1 N.2.2.1 N.2.2.2.1 E.2.1 hdv hz hm ?_ hR.1 hR.2 hd (fun q cA H1 hK hP hD hS => ?_)
  · rcases htc with ⟨-, rfl⟩ | ⟨-, rfl⟩ | ⟨-, rfl⟩ <;> simp only [componentBytes] <;> omega
  · have hcA : cA = ac tc := by
      have g1 := (hK.2 5 _ rfl).2
      rcases htc with ⟨rfl, rfl⟩ | ⟨rfl, rfl⟩ | ⟨rfl, rfl⟩
      · exact Option.some.inj (Eq.trans (Eq.symm g1) (hK.2 0 _ rfl).2)
      · exact Option.some.inj (Eq.trans (Eq.symm g1) (hK.2 1 _ rfl).2)
      · exact Option.some.inj (Eq.trans (Eq.symm g1) (hK.2 2 _ rfl).2)
    subst hcA
    obtain ⟨N2, e2⟩ := N.push (st := st) q (aI tc m0 (fun _ => 0)) (by simpa [ok_all, ok_v] using hok) rfl hP hD hS
    have w := kk p l e s m args below meth c dC dI ac sk A ad0 n0 Qs E _ H1 locs ls N2
    rw [List.map_cons, e2] at w
    have e3 : xv (fun j => if j = h.length then q else ad j) sk (.ref h.length) = .ref q := by
      show Value.ref (if h.length = h.length then q else ad h.length) = _
      rw [if_pos rfl]
    rw [e3] at w
    exact w
set_option maxHeartbeats 4000000 in
theorem v_anew {idx tc m0 k2 n2 b : Nat} {C : String} {z : Int32} {h2 : ab_H} (hd : decode cc pc = .ok (.anewarray idx, 3)) (hw : Cond.classLink own idx C ∈ gw) (htc : (tc = 3 ∧ C = RX1) ∨ (tc = 4 ∧ C = RX2)) (hz : ¬ z < 0) (hm : z.toNatClampNeg = m0) (hm2 : m0 ≤ 10000) (hok : ok_all h.length L st h = true) (hk : k + 1 = k2) (hn : n + m0 = n2) (hR : k2 ≤ R.cells ∧ n2 ≤ R.slots) (hb : h.length = b) (hh : h ++ [aR tc (List.replicate m0 none)] = h2) (kk : Vd own nm cc nL ret R Q mc ms k2 n2 (pc + 3) L (.ref b :: st) h2) : Vd own nm cc nL ret R Q mc ms k n pc L (.int z :: st) h := by
  subst hk; subst hn; subst hb; subst hh
  intro p l e s m args below meth c dC dI ac sk A ad0 n0 Qs E ad H locs ls N
  have hover : va_AO C s := by
    obtain ⟨-, -, -, -, -, g1, g2⟩ := E.2.2.1
    rcases htc with ⟨-, rfl⟩ | ⟨-, rfl⟩
    · exact g1
    · exact g2
  refine va_newq (C := C) E.1.1 E.1.2.1 E.1.2.2.2.2.1 (E.1.2.2.2.2.2.1 _ hw) hover E.2.2.2.1 N.2.1 N.2.2.1 N.2.2.2.1 E.2.1 hz hm (by omega) hR.1 hR.2 hd (fun q cA H1 hK hP hD hS => ?_)
  have hcA : cA = ac tc := by
    obtain ⟨_, _, -, -, -, g1⟩ := (hK.2 5 _ rfl).2
    rcases htc with ⟨rfl, rfl⟩ | ⟨rfl, rfl⟩
    · obtain ⟨_, _, -, -, -, g2⟩ := (hK.2 3 _ rfl).2
      exact Option.some.inj (g1.symm.trans g2)
    · obtain ⟨_, _, -, -, -, g2⟩ := (hK.2 4 _ rfl).2
      exact Option.some.inj (g1.symm.trans g2)
  subst hcA
  have e1 : xc ad sk ac (aR tc (List.replicate m0 none)) = .inl (ac tc, m0, .inr (.inr (.inr (.inr (fun _ => none))))) := by
    have e : (fun j => ((List.replicate m0 (none : Option Nat)).getD j none).map ad) = (fun _ => none) := by
      funext j
      rw [List.getD_eq_getElem?_getD, List.getElem?_replicate]
      split <;> rfl
    simp only [xc, List.length_replicate, e]
  rw [← e1] at hP hD
  have hc : ok_c h.length (aR tc (List.replicate m0 none)) = true := List.all_eq_true.mpr (fun o ho => by rw [(List.mem_replicate.mp ho).2])
  obtain ⟨N2, e2⟩ := N.push (st := st) q (aR tc (List.replicate m0 none)) (by simpa [ok_all, ok_v] using hok) hc hP hD hS
  have w := kk p l e s m args below meth c dC dI ac sk A ad0 n0 Qs E _ H1 locs ls N2
  rw [List.map_cons, e2] at w
  have e3 : xv (fun j => if j = h.length then q else ad j) sk (.ref h.length) = .ref q := by
    show Value.ref (if h.length = h.length then q else ad h.length) = _
    rw [if_pos rfl]
  rw [e3] at w
  exact w
theorem v_aast {b tc r ci : Nat} {lr : List (Option Nat)} {fs : List Value} {i : Int32} {j : Nat} {C : String} {T : u_T} {sz : Nat} {h2 : ab_H} (hd : decode cc pc = .ok (.aastore, 1)) (hh : h[b]? = some (aR tc lr)) (hr : h[r]? = some (aO ci fs)) (hc : vwCl[ci]? = some (C, T, sz)) (htc : (tc = 3 ∧ C = RX1) ∨ (tc = 4 ∧ C = RX2)) (hi : vp_in i lr.length) (hj : i.toNatClampNeg = j) (he : h.set b (aR tc (lr.set j (some r))) = h2) (kk : Vd own nm cc nL ret R Q mc ms k n (pc + 1) L st h2) : Vd own nm cc nL ret R Q mc ms k n pc L (.ref r :: .int i :: .ref b :: st) h := by
  subst hj; subst he
  intro p l e s m args below meth c dC dI ac sk A ad0 n0 Qs E ad H locs ls N
  have hlt : i.toNatClampNeg < lr.length := Nat.not_le.mp fun q => hi (Or.inr q)
  have hty : (ab_ty ac)[tc]? = some (ac tc, .object C) := by
    rcases htc with ⟨rfl, rfl⟩ | ⟨rfl, rfl⟩ <;> rfl
  refine va_astq (r := (C, T, sz)) E.1.1 E.1.2.1 E.2.2.2.1 N.2.1 N.2.2.1 N.2.2.2.1 b tc r ci (xw_of hh) hty (xw_of hr) hc hi hd (fun H1 locs1 hP hD hS => ?_)
  have e1 : xc ad sk ac (aR tc (lr.set i.toNatClampNeg (some r))) = .inl (ac tc, lr.length, .inr (.inr (.inr (.inr (va_up (fun j => (lr.getD j none).map ad) i.toNatClampNeg (some (ad r))))))) := by
    have e : (fun j => ((lr.set i.toNatClampNeg (some r)).getD j none).map ad) = va_up (fun j => (lr.getD j none).map ad) i.toNatClampNeg (some (ad r)) := by
      funext j
      rw [List.getD_eq_getElem?_getD, List.getElem?_set]
      by_cases hq : i.toNatClampNeg = j
      · subst hq
        simp [va_up, hlt]
      · rw [if_neg hq]
        simp only [va_up, if_neg (Ne.symm hq), List.getD_eq_getElem?_getD]
    simp only [xc, List.length_set, e]
  rw [← e1] at hP hD
  exact kk p l e s m args below meth c dC dI ac sk A ad0 n0 Qs E ad H1 locs1 ls (N.upd hP hD hS)
theorem v_objI {idx b : Nat} (hd : decode cc pc = .ok (.invokespecial idx, 3)) (hw : Cond.methodLink own idx Lib.objectInit ∈ gw ∧ Cond.instanceMethod Lib.objectInit ∈ gw ∧ Cond.code Lib.objectInit ⟨#[0xb1]⟩ 1 none ∈ gw) (hcat : Nat.ble (st.map fun v => v.category).sum 8 = true) (hR : 1 ≤ R.frames ∧ 20 ≤ R.locals) (kk : Vd own nm cc nL ret R Q mc ms k n (pc + 3) L st h) : Vd own nm cc nL ret R Q mc ms k n pc L (.ref b :: st) h := by
  intro p l e s m args below meth c dC dI ac sk A ad0 n0 Qs E ad H locs ls N
  refine W.objInit E.1.1 E.1.2.1 E.1.2.2.2.2.1 (E.1.2.2.2.2.2.1 _ hw.1) (E.1.2.2.2.2.2.1 _ hw.2.1) (E.1.2.2.2.2.2.1 _ hw.2.2) rfl (N.2.2.2.2.1.trans E.1.2.2.2.1.symm) rfl hd hR.1 ?_ (kk p l e s m args below meth c dC dI ac sk A ad0 n0 Qs E ad H locs ls N)
  rw [xv_cats]
  have := Nat.le_of_ble_eq_true hcat
  show 2 * 0 + _ + 12 ≤ _
  omega
variable {y : MethodName} {cy : ByteArray} {nLy : Nat} {Ry : Room} {h0 : ab_H}
set_option maxHeartbeats 4000000 in
/-- behind a constructor's call on the newest cell: what it made stands behind that cell -/
theorem ab_contC {p : Program} {l : Launch} {e : Env} {s : State} {m : MethodId} {args : Array Value} {below : List Frame} {meth : Method} {c : Code} {dC : Nat → ClassId} {dI : Nat → Nat → Nat} {ac : Nat → ClassId} {sk : Nat → Option Nat} {A : Nat → Prop} {ad0 : Nat → Nat} {n0 : Nat} {Qs : State → Prop} {ho : ab_H} {c0 c1 : ab_C} {mcC msC : Nat}
    (E : Ev own nm cc nL ret R Q mc ms p l e s m args below meth c dC dI ac sk A ad0 n0 Qs) {ad : Nat → Nat} {H : Heap} {locs : List Loc} {ls : Array Slot} (N : Nw dC dI ac sk A ad0 n0 s nL L (ho ++ [c1]) ad H locs ls) (hc : c1 = rc (fun i => ho.length + i) c0) (hok : ok_all (ho.length + 1) L st ho = true) (hl2 : 2 ≤ h0.length) {a : Array Value} {st0 : List Value}
    (run : va_Run p l e R s m args below meth c H locs k n mcC msC (F0 m pc ls st0) (st.map (xv ad sk)) (Pq dC dI ac sk (fun i => ad (ho.length + i)) 1 (va_A (xw (fun i => ad (ho.length + i)) sk ac [c0]) H.size) (ab_eq none h0) a) (va_A (xw (fun i => ad (ho.length + i)) sk ac [c0]) H.size))
    (kk : Vd own nm cc nL ret R Q mc ms (k + mcC) (n + msC) (pc + 3) L st (ho ++ h0.map (rc (fun i => ho.length + i)))) : W p l e R s m args below meth c H locs k n Qs (F0 m pc ls st0) := by
  obtain ⟨hx, hP, hD, hS, hl⟩ := N
  simp only [ok_all, Bool.and_eq_true] at hok
  obtain ⟨⟨o1, o2⟩, o3⟩ := hok
  have hcell : (xw ad sk ac (ho ++ [c1]))[ho.length]? = some (ad ho.length, xc ad sk ac c1) := xw_of (by simp)
  have hsub1 : xw (fun i => ad (ho.length + i)) sk ac [c0] = [(ad ho.length, xc ad sk ac c1)] := by
    rw [hc, ← xc_rc ad sk (fun i => ho.length + i) ac c0]
    rfl
  have hF : ∀ q, va_A (xw (fun i => ad (ho.length + i)) sk ac [c0]) H.size q → A q := va_free hD hS E.2.1 [ho.length] (by rw [hsub1]; simp [hcell])
  intro T hT X
  obtain ⟨v, st₀, t, T', Lx, e0, X', hL, e1, e2, ⟨⟨v', h', ad', hv, ⟨rfl, rfl⟩, ⟨hn1, hy, -⟩, hP1, hD1⟩, hz, hk⟩, stp⟩ := run T hT X
  obtain rfl : v = none := by cases hv; rfl
  rw [e0] at hz hk
  rw [← e1] at hP1 hz hk
  have had0 : ad' 0 = ad ho.length := by
    have := hy 0 (by omega)
    simpa using this
  have hS' : va_S A s.heap T'.heap (locs ++ Lx) := ⟨Nat.le_trans hS.1 hz, fun q h1 h2 => by rw [hk q (Nat.lt_of_lt_of_le h1 hS.1) (fun z => h2 (hF q z))]; exact hS.2.1 q h1 h2, fun q hq => by
      rcases List.mem_append.mp hq with h | h
      · exact hS.2.2 q h
      · exact hF _ (hL q h)⟩
  -- the new assignment
  have ha : ∀ j, j < ho.length + 1 → (fun j => if j < ho.length + 1 then ad j else ad' (j - ho.length)) j = ad j := fun j hj => by
    show (if j < ho.length + 1 then ad j else ad' (j - ho.length)) = ad j
    rw [if_pos hj]
  have hb : ∀ i, (fun j => if j < ho.length + 1 then ad j else ad' (j - ho.length)) (ho.length + i) = ad' i := fun i => by
    show (if ho.length + i < ho.length + 1 then ad (ho.length + i) else ad' (ho.length + i - ho.length)) = ad' i
    by_cases hi : i = 0
    · subst hi
      rw [if_pos (by omega), had0]
      rfl
    · rw [if_neg (by omega), Nat.add_sub_cancel_left]
  generalize hAD : (fun j => if j < ho.length + 1 then ad j else ad' (j - ho.length)) = aD at ha hb
  have hcomp : (fun i => aD (ho.length + i)) = ad' := funext hb
  have ew : xw aD sk ac (ho ++ h'.map (rc (fun i => ho.length + i))) = xw ad sk ac ho ++ xw ad' sk ac h' := by
    apply List.ext_getElem?
    intro i
    rw [xw_at, List.getElem?_append, List.getElem?_append]
    have hlo : (xw ad sk ac ho).length = ho.length := by simp [xw]
    rw [hlo]
    by_cases hi : i < ho.length
    · rw [if_pos hi, if_pos hi, ← ok_w_eq (ad := ad) (ad' := aD) (Nat.le_succ _) ha o3, xw_at]
    · rw [if_neg hi, if_neg hi, xw_at, List.getElem?_map]
      cases hh : h'[i - ho.length]? with
      | none => rfl
      | some c =>
        simp only [Option.map_some]
        have e3 : aD i = ad' (i - ho.length) := by
          have := hb (i - ho.length)
          rwa [show ho.length + (i - ho.length) = i by omega] at this
        rw [e3, ← xc_rc aD sk (fun i => ho.length + i) ac c, hcomp]
  have hPo : va_P (dC, dI) vwCl (xw ad sk ac ho) T'.heap := by
    intro q x hx2
    have hlt : q < ho.length := by
      have := (List.getElem?_eq_some_iff.mp hx2).1
      simpa [xw] using this
    have h3 : (xw ad sk ac (ho ++ [c1]))[q]? = some x := by
      rw [xw_push, List.getElem?_append_left (by simpa [xw] using hlt)]
      exact hx2
    refine (hP q x h3).kept (hk x.1 (hP q x h3).lt (fun z => ?_))
    rcases z with ⟨i, e, hi⟩ | z
    · rw [hsub1] at hi
      cases i with
      | succ i => simp at hi
      | zero =>
        simp only [List.getElem?_cons_zero, Option.some.injEq, Prod.mk.injEq] at hi
        have := hD.1 q ho.length _ _ h3 hcell hi.1.symm
        omega
    · have := (hP q x h3).lt
      omega
  have hDo : va_D A (xw ad sk ac ho) := by
    have hpre : ∀ (q : Nat) (x : Nat × va_E), (xw ad sk ac ho)[q]? = some x → (xw ad sk ac (ho ++ [c1]))[q]? = some x := by
      intro q x hx2
      have hlt := (List.getElem?_eq_some_iff.mp hx2).1
      rw [xw_push, List.getElem?_append_left hlt]
      exact hx2
    exact ⟨fun i j x y hi hj hxy => hD.1 i j x y (hpre i x hi) (hpre j y hj) hxy, fun q x hx2 => hD.2 q x (hpre q x hx2)⟩
  have hD2 : va_D A (xw ad sk ac ho ++ xw ad' sk ac h') := by
    refine va_D.app hDo (hD1.weaken (fun _ _ _ h => hF _ h)) (fun i j x y hi hj hxy => ?_)
    have h3 : (xw ad sk ac (ho ++ [c1]))[i]? = some x := by
      rw [xw_push, List.getElem?_append_left (List.getElem?_eq_some_iff.mp hi).1]
      exact hi
    have hli := (List.getElem?_eq_some_iff.mp hi).1
    have hlo : (xw ad sk ac ho).length = ho.length := by simp [xw]
    have hA1 := hD1.2 j y hj
    rw [← hxy] at hA1
    rcases hA1 with ⟨i2, e, hi2⟩ | z
    · rw [hsub1] at hi2
      cases i2 with
      | succ i2 => simp at hi2
      | zero =>
        simp only [List.getElem?_cons_zero, Option.some.injEq, Prod.mk.injEq] at hi2
        have := hD.1 i ho.length _ _ h3 hcell hi2.1.symm
        omega
    · have := (hP i x h3).lt
      omega
  have w := kk p l e s m args below meth c dC dI ac sk A ad0 n0 Qs E aD T'.heap (locs ++ Lx) ls ⟨⟨?_, ?_, ?_⟩, by rw [ew]; exact hPo.app hP1, by rw [ew]; exact hD2, hS', by rw [ok_L_eq ha o1]; exact hl⟩
  · obtain ⟨t2, a1, b1⟩ := w T' rfl X'
    refine ⟨t2, stp t2 ?_, b1⟩
    rw [ok_S_eq ha o2] at a1
    exact a1
  · have h1 := hx.1
    rw [List.length_append] at h1 ⊢
    simp at h1 ⊢
    omega
  · intro j hj
    have h1 := hx.1
    rw [List.length_append] at h1
    simp at h1
    rw [ha j (by omega)]
    exact hx.2.1 j hj
  · intro e9
    have h1 := hx.1
    rw [List.length_append] at h1 e9
    simp at h1 e9
    omega
/-- a constructor that a link names: a nest mate's, any class's -/
def MI (own : String) (idx : Nat) (y : MethodName) (host : String) (cc : ByteArray) (nL : Nat) : Prop :=
  Cond.methodLinkNest own idx y host ∈ lw_tbl ∧ Cond.instanceMethod y ∈ gw ∧ Cond.initialized y.cls ∈ gw ∧ Cond.code y cc nL none ∈ gw ∧ y.name = "<init>" ∧ (y.cls ≠ "java/lang/invoke/MethodHandle" ∧ y.cls ≠ "java/lang/invoke/VarHandle" ∧ (parseMethodDescriptor y.desc).map (fun d => d.parameters.length) = some 0)
def MJ (own : String) (idx : Nat) (y : MethodName) (cc : ByteArray) (nL : Nat) : Prop :=
  Cond.methodLink own idx y ∈ gw ∧ Cond.instanceMethod y ∈ gw ∧ Cond.initialized y.cls ∈ gw ∧ Cond.code y cc nL none ∈ gw ∧ y.name = "<init>" ∧ (y.cls ≠ "java/lang/invoke/MethodHandle" ∧ y.cls ≠ "java/lang/invoke/VarHandle" ∧ (parseMethodDescriptor y.desc).map (fun d => d.parameters.length) = some 0)
theorem Mt.preC {p : Program} {l : Launch} {e : Env} {s : State} {m : MethodId} {args : Array Value} {below : List Frame} {meth : Method} {c : Code} {dC : Nat → ClassId} {dI : Nat → Nat → Nat} {ac : Nat → ClassId} {sk : Nat → Option Nat} {A : Nat → Prop} {ad0 : Nat → Nat} {n0 : Nat} {Qs : State → Prop} {ho : ab_H} {c0 c1 : ab_C}
    (E : Ev own nm cc nL ret R Q mc ms p l e s m args below meth c dC dI ac sk A ad0 n0 Qs) {ad : Nat → Nat} {H : Heap} {locs : List Loc} {ls : Array Slot} (N : Nw dC dI ac sk A ad0 n0 s nL L (ho ++ [c1]) ad H locs ls) (hc : c1 = rc (fun i => ho.length + i) c0) :
    ∀ U : State, U.heap = H → s.WarmedH U.vm → va_Pc ([Value.ref 0].map (xv (fun i => ad (ho.length + i)) sk)) (fun U => U.heap.size = H.size ∧ va_P (dC, dI) vwCl (xw (fun i => ad (ho.length + i)) sk ac [c0]) U.heap ∧ va_K (dC, dI) vwCl (ab_ty ac) U ∧ va_D (fun _ => True) (xw (fun i => ad (ho.length + i)) sk ac [c0]) ∧ SX sk (va_A (xw (fun i => ad (ho.length + i)) sk ac [c0]) H.size) U U.heap) (Value.ref (ad ho.length) :: ([] : List Value)).toArray U := by
  intro U hU hW
  obtain ⟨hx, hP, hD, hS, hl⟩ := N
  have hcell : (xw ad sk ac (ho ++ [c1]))[ho.length]? = some (ad ho.length, xc ad sk ac c1) := xw_of (by simp)
  have hsub1 : xw (fun i => ad (ho.length + i)) sk ac [c0] = [(ad ho.length, xc ad sk ac c1)] := by
    rw [hc, ← xc_rc ad sk (fun i => ho.length + i) ac c0]
    rfl
  have hF : ∀ q, va_A (xw (fun i => ad (ho.length + i)) sk ac [c0]) H.size q → A q := va_free hD hS E.2.1 [ho.length] (by rw [hsub1]; simp [hcell])
  refine ⟨rfl, by rw [hU], ?_, va_K.moved hW.alike E.2.2.2.1, ?_, SX.move E.2.2.1 hS hW hU hF⟩
  · rw [hU, hsub1]
    exact hP.sub [ho.length] (by simp [hcell])
  · rw [hsub1]
    exact (hD.sub [ho.length] rfl (by simp [hcell])).weaken (fun _ _ _ _ => trivial)
def rmA (d mc ms : Nat) : Room := { frames := d, cells := mc, slots := ms, locals := 35 * d }
theorem rmA_ok {d e nL a b a2 b2 : Nat} (h : d + 1 ≤ e) (h2 : nL ≤ 16) : (rmA d a b).frames + 1 ≤ (rmA e a2 b2).frames ∧ 8 + (nL + 11) + (rmA d a b).locals ≤ (rmA e a2 b2).locals := by
  simp only [rmA]
  omega
set_option maxHeartbeats 4000000 in
theorem v_ctorN {idx b d dy mcT msT mcC msC k2 n2 : Nat} {host : String} {ho h2 : ab_H} {c0 c1 : ab_C} (hd : decode cc pc = .ok (.invokespecial idx, 3)) (f : MI own idx y host cy nLy) (hM : Mt y cy nLy none (rmA dy mcC msC) [.ref 0] [c0] (ab_eq none h0)) (hh : h = ho ++ [c1]) (hb : ho.length = b) (hc : c1 = rc (fun i => ho.length + i) c0) (hok : ok_all (ho.length + 1) L st ho = true) (hl2 : 2 ≤ h0.length) (hcat : Nat.ble (st.map fun v => v.category).sum 8 = true) (hR : dy + 1 ≤ d) (hR2 : nLy ≤ 16) (hk : k + mcC = k2) (hn : n + msC = n2) (hkk : k2 ≤ mcT ∧ n2 ≤ msT) (h3 : ho ++ h0.map (rc (fun i => ho.length + i)) = h2) (kk : Vd own nm cc nL ret (rmA d mcT msT) Q mc ms k2 n2 (pc + 3) L st h2) : Vd own nm cc nL ret (rmA d mcT msT) Q mc ms k n pc L (.ref b :: st) h := by
  subst hb; subst hh; subst hk; subst hn; subst h3
  intro p l e s m args below meth c dC dI ac sk A ad0 n0 Qs E ad H locs ls N
  obtain ⟨f1, f2, f4, f5, f7, f6⟩ := f
  have hM := hM l dC dI ac sk (fun i => ad (ho.length + i)) H.size
  have hpre := Mt.preC E N hc
  exact ab_contC E N hc hok hl2 (va_runIN (As := []) (rest := st.map (xv ad sk)) (host := host) (b := ad ho.length) ⟨E.1.1, E.1.2.1, E.1.2.2.2.1, E.1.2.2.2.2.1, E.1.2.2.2.2.2.1⟩ hM ⟨va_cnB 0 E.1.2.2.2.2.2.1 (gw_code f5) rfl rfl rfl (E.2.2.1.1 _ f1 rfl) (E.1.2.2.2.2.2.1 _ f4) f6 (rmA_ok hR hR2), f7, E.1.2.2.2.2.2.1 _ f2⟩ ⟨Mt.blind, hpre⟩ rfl rfl N.2.2.2.2.1 rfl (lv_room (by rw [xv_cats]; exact Nat.le_of_ble_eq_true hcat)) hd ⟨hkk.1, hkk.2⟩) kk
end VNEW
