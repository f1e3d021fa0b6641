
section VHEAP
variable {own nm : String} {cc : ByteArray} {nL : Nat} {ret : Option FieldType} {R : Room} {Q : ab_Q} {mc ms k n pc : Nat} {L : List (Nat × Value)} {st : List Value} {h : ab_H}
/-- a field of a class, as a link of a class names it -/
def FL (own : String) (idx ci k : Nat) (ty : FieldType) (fin : Bool) : Prop := ∃ (C : String) (T : u_T) (N : Nat) (tyf : Nat → FieldType), vwCl[ci]? = some (C, T, N) ∧ (∀ w ∈ u_ws C T N, w ∈ gw) ∧ k < N ∧ Cond.fieldLink own idx C (T k).2.1 (T k).2.2.1 ∈ gw ∧ (T k).1 = C ∧ (T k).2.2.2 = fin ∧ parseFieldDescriptor (T k).2.2.1 = some ty ∧ (∀ k, k < N → parseFieldDescriptor (T k).2.2.1 = some (tyf k)) ∧ (∀ a, a < N → ∀ b, b < N → a ≠ b → (T a).2.1 ≠ (T b).2.1)
theorem Nw.upd {dC : Nat → ClassId} {dI : Nat → Nat → Nat} {ac : Nat → ClassId} {sk : Nat → Option Nat} {A : Nat → Prop} {ad0 : Nat → Nat} {n0 : Nat} {s : State} {nL : Nat} {L : List (Nat × Value)} {h : ab_H} {ad : Nat → Nat} {H H1 : Heap} {locs locs1 : List Loc} {ls : Array Slot} {b : Nat} {c : ab_C} (N : Nw dC dI ac sk A ad0 n0 s nL L h ad H locs ls) (hP : va_P (dC, dI) vwCl ((xw ad sk ac h).set b (ad b, xc ad sk ac c)) H1) (hD : va_D A ((xw ad sk ac h).set b (ad b, xc ad sk ac c))) (hS : va_S A s.heap H1 locs1) : Nw dC dI ac sk A ad0 n0 s nL L (h.set b c) ad H1 locs1 ls := by
  rw [xw_set] at hP hD
  exact ⟨⟨by rw [List.length_set]; exact N.1.1, N.1.2.1, by rw [List.length_set]; exact N.1.2.2⟩, hP, hD, hS, N.2.2.2.2⟩
theorem v_get {idx ci j b : Nat} {ty : FieldType} {fin : Bool} {fs : List Value} {v : Value} (hd : decode cc pc = .ok (.getfield idx, 3)) (f : FL own idx ci j ty fin) (hh : h[b]? = some (aO ci fs)) (hv : fs[j]? = some v) (kk : Vd own nm cc nL ret R Q mc ms k n (pc + 3) L (v :: st) h) : Vd own nm cc nL ret R Q mc ms k n pc L (.ref b :: st) h := by
  intro p l e s m args below meth c dC dI ac sk A ad0 n0 Qs E ad H locs ls N
  obtain ⟨C, T, NN, tyf, f1, f2, f3, f4, f5, f6, f7, f8, f9⟩ := f
  exact va_get (ref := C) E.1.1 E.1.2.1 E.1.2.2.2.2.2.1 f2 E.1.2.2.2.2.1 E.2.2.2.1 N.2.1 b (xw_of hh) f1 j f3 (E.1.2.2.2.2.2.1 _ f4) (by rw [f5]; exact fun _ h9 => h9) (by rw [List.getElem?_map, hv]; rfl) hd (kk p l e s m args below meth c dC dI ac sk A ad0 n0 Qs E ad H locs ls N)
theorem v_put {idx ci j b : Nat} {ty : FieldType} {fs : List Value} {v : Value} (hd : decode cc pc = .ok (.putfield idx, 3)) (f : FL own idx ci j ty false) (hh : h[b]? = some (aO ci fs)) (hn : ∀ ad sk, narrow ty (xv ad sk v) = xv ad sk v) (hf : ∀ ad sk, fits ty (xv ad sk v) = true) (hl : j < fs.length) (kk : Vd own nm cc nL ret R Q mc ms k n (pc + 3) L st (h.set b (aO ci (fs.set j v)))) : Vd own nm cc nL ret R Q mc ms k n pc L (v :: .ref b :: st) h := by
  intro p l e s m args below meth c dC dI ac sk A ad0 n0 Qs E ad H locs ls N
  obtain ⟨C, T, NN, tyf, f1, f2, f3, f4, f5, f6, f7, f8, f9⟩ := f
  refine va_put (ref := C) E.1.1 E.1.2.1 E.1.2.2.2.2.2.1 f2 tyf f8 f9 E.1.2.2.2.2.1 E.2.2.2.1 N.2.1 N.2.2.1 N.2.2.2.1 b (xw_of hh) f1 j f3 (E.1.2.2.2.2.2.1 _ f4) (by rw [f5]; exact fun _ h9 => h9) f6 f7 (hn ad sk) (hf ad sk) (by rw [List.length_map]; exact hl) hd (fun H1 locs1 hP hD hS => ?_)
  rw [← List.map_set] at hP hD
  exact kk p l e s m args below meth c dC dI ac sk A ad0 n0 Qs E ad H1 locs1 ls (N.upd (c := aO ci (fs.set j v)) hP hD hS)
theorem v_putF {idx ci j b : Nat} {ty : FieldType} {fs : List Value} {v : Value} (hd : decode cc pc = .ok (.putfield idx, 3)) (f : FL own idx ci j ty true) (hown : (vwCl[ci]?).map (fun q => q.1) = some own) (hnm : nm = "<init>") (hh : h[b]? = some (aO ci fs)) (hn : ∀ ad sk, narrow ty (xv ad sk v) = xv ad sk v) (hf : ∀ ad sk, fits ty (xv ad sk v) = true) (hl : j < fs.length) (kk : Vd own nm cc nL ret R Q mc ms k n (pc + 3) L st (h.set b (aO ci (fs.set j v)))) : Vd own nm cc nL ret R Q mc ms k n pc L (v :: .ref b :: st) h := by
  intro p l e s m args below meth c dC dI ac sk A ad0 n0 Qs E ad H locs ls N
  obtain ⟨C, T, NN, tyf, f1, f2, f3, f4, f5, f6, f7, f8, f9⟩ := f
  have ho : C = own := by rw [f1] at hown; exact Option.some.inj hown
  refine va_putF (ref := C) E.1.1 E.1.2.1 E.1.2.2.2.2.2.1 f2 tyf f8 f9 E.1.2.2.2.2.1 E.2.2.2.1 N.2.1 N.2.2.1 N.2.2.2.1 b (xw_of hh) f1 j f3 (E.1.2.2.2.2.2.1 _ f4) (by rw [f5]; exact fun _ h9 => h9) f6 (E.1.2.2.2.2.2.2.2.trans hnm) (f5.trans ho) f7 (hn ad sk) (hf ad sk) (by rw [List.length_map]; exact hl) hd (fun H1 locs1 hP hD hS => ?_)
  rw [← List.map_set] at hP hD
  exact kk p l e s m args below meth c dC dI ac sk A ad0 n0 Qs E ad H1 locs1 ls (N.upd (c := aO ci (fs.set j v)) hP hD hS)
theorem v_iald {b m0 : Nat} {f : Nat → Int32} {i : Int32} (hd : decode cc pc = .ok (.iaload, 1)) (hh : h[b]? = some (aI 0 m0 f)) (hi : vp_in i m0) (kk : Vd own nm cc nL ret R Q mc ms k n (pc + 1) L (.int (f i.toNatClampNeg) :: st) h) : Vd own nm cc nL ret R Q mc ms k n pc L (.int i :: .ref b :: st) h := by
  intro p l e s m args below meth c dC dI ac sk A ad0 n0 Qs E ad H locs ls N
  exact va_iald E.1.1 E.1.2.1 E.2.2.2.1 N.2.1 b 0 (xw_of hh) rfl hi hd (kk p l e s m args below meth c dC dI ac sk A ad0 n0 Qs E ad H locs ls N)
theorem v_bald {b m0 : Nat} {f : Nat → Int32} {i : Int32} (hd : decode cc pc = .ok (.baload, 1)) (hh : h[b]? = some (aI 1 m0 f)) (hi : vp_in i m0) (kk : Vd own nm cc nL ret R Q mc ms k n (pc + 1) L (.int (f i.toNatClampNeg) :: st) h) : Vd own nm cc nL ret R Q mc ms k n pc L (.int i :: .ref b :: st) h := by
  intro p l e s m args below meth c dC dI ac sk A ad0 n0 Qs E ad H locs ls N
  exact va_bald E.1.1 E.1.2.1 E.2.2.2.1 N.2.1 b 1 (xw_of hh) rfl hi hd (kk p l e s m args below meth c dC dI ac sk A ad0 n0 Qs E ad H locs ls N)
theorem v_zald {b m0 : Nat} {f : Nat → Int32} {i : Int32} (hd : decode cc pc = .ok (.baload, 1)) (hh : h[b]? = some (aI 2 m0 f)) (hi : vp_in i m0) (kk : Vd own nm cc nL ret R Q mc ms k n (pc + 1) L (.int (f i.toNatClampNeg) :: st) h) : Vd own nm cc nL ret R Q mc ms k n pc L (.int i :: .ref b :: st) h := by
  intro p l e s m args below meth c dC dI ac sk A ad0 n0 Qs E ad H locs ls N
  exact va_zald E.1.1 E.1.2.1 E.2.2.2.1 N.2.1 b 2 (xw_of hh) rfl hi hd (kk p l e s m args below meth c dC dI ac sk A ad0 n0 Qs E ad H locs ls N)
theorem v_iast {b m0 : Nat} {f : Nat → Int32} {i x : Int32} (hd : decode cc pc = .ok (.iastore, 1)) (hh : h[b]? = some (aI 0 m0 f)) (hi : vp_in i m0) (kk : Vd own nm cc nL ret R Q mc ms k n (pc + 1) L st (h.set b (aI 0 m0 (upd f i.toNatClampNeg (x))))) : Vd own nm cc nL ret R Q mc ms k n pc L (.int x :: .int i :: .ref b :: st) h := by
  intro p l e s m args below meth c dC dI ac sk A ad0 n0 Qs E ad H locs ls N
  exact va_iast E.1.1 E.1.2.1 E.2.2.2.1 N.2.1 N.2.2.1 N.2.2.2.1 b 0 (xw_of hh) rfl hi hd (fun H1 locs1 hP hD hS => kk p l e s m args below meth c dC dI ac sk A ad0 n0 Qs E ad H1 locs1 ls (N.upd (c := aI 0 m0 (upd f i.toNatClampNeg (x))) hP hD hS))
theorem v_bast {b m0 : Nat} {f : Nat → Int32} {i x : Int32} (hd : decode cc pc = .ok (.bastore, 1)) (hh : h[b]? = some (aI 1 m0 f)) (hi : vp_in i m0) (kk : Vd own nm cc nL ret R Q mc ms k n (pc + 1) L st (h.set b (aI 1 m0 (upd f i.toNatClampNeg (vp_nar .byte x))))) : Vd own nm cc nL ret R Q mc ms k n pc L (.int x :: .int i :: .ref b :: st) h := by
  intro p l e s m args below meth c dC dI ac sk A ad0 n0 Qs E ad H locs ls N
  exact va_bast E.1.1 E.1.2.1 E.2.2.2.1 N.2.1 N.2.2.1 N.2.2.2.1 b 1 (xw_of hh) rfl hi hd (fun H1 locs1 hP hD hS => kk p l e s m args below meth c dC dI ac sk A ad0 n0 Qs E ad H1 locs1 ls (N.upd (c := aI 1 m0 (upd f i.toNatClampNeg (vp_nar .byte x))) hP hD hS))
theorem v_zast {b m0 : Nat} {f : Nat → Int32} {i x : Int32} (hd : decode cc pc = .ok (.bastore, 1)) (hh : h[b]? = some (aI 2 m0 f)) (hi : vp_in i m0) (kk : Vd own nm cc nL ret R Q mc ms k n (pc + 1) L st (h.set b (aI 2 m0 (upd f i.toNatClampNeg (vp_nar .boolean x))))) : Vd own nm cc nL ret R Q mc ms k n pc L (.int x :: .int i :: .ref b :: st) h := by
  intro p l e s m args below meth c dC dI ac sk A ad0 n0 Qs E ad H locs ls N
  exact va_zast E.1.1 E.1.2.1 E.2.2.2.1 N.2.1 N.2.2.1 N.2.2.2.1 b 2 (xw_of hh) rfl hi hd (fun H1 locs1 hP hD hS => kk p l e s m args below meth c dC dI ac sk A ad0 n0 Qs E ad H1 locs1 ls (N.upd (c := aI 2 m0 (upd f i.toNatClampNeg (vp_nar .boolean x))) hP hD hS))
theorem v_alen {b tc m0 : Nat} {f : Nat → Int32} {v : Int32} (hd : decode cc pc = .ok (.arraylength, 1)) (hh : h[b]? = some (aI tc m0 f)) (htc : tc < 5) (hv : Int32.ofNat m0 = v) (kk : Vd own nm cc nL ret R Q mc ms k n (pc + 1) L (.int v :: st) h) : Vd own nm cc nL ret R Q mc ms k n pc L (.ref b :: st) h := by
  intro p l e s m args below meth c dC dI ac sk A ad0 n0 Qs E ad H locs ls N
  obtain ⟨ty, hty⟩ : ∃ ty, (ab_ty ac)[tc]? = some (ac tc, ty) := by
    rcases (show tc = 0 ∨ tc = 1 ∨ tc = 2 ∨ tc = 3 ∨ tc = 4 by omega) with rfl | rfl | rfl | rfl | rfl <;> exact ⟨_, rfl⟩
  exact va_alen E.1.1 E.1.2.1 E.2.2.2.1 N.2.1 b tc (xw_of hh) hty hv hd (kk p l e s m args below meth c dC dI ac sk A ad0 n0 Qs E ad H locs ls N)
theorem v_aald {b tc r : Nat} {lr : List (Option Nat)} {i : Int32} (hd : decode cc pc = .ok (.aaload, 1)) (hh : h[b]? = some (aR tc lr)) (htc : tc = 3 ∨ tc = 4) (hi : vp_in i lr.length) (hr : lr.getD i.toNatClampNeg none = some r) (kk : Vd own nm cc nL ret R Q mc ms k n (pc + 1) L (.ref r :: st) h) : Vd own nm cc nL ret R Q mc ms k n pc L (.int i :: .ref b :: st) h := by
  intro p l e s m args below meth c dC dI ac sk A ad0 n0 Qs E ad H locs ls N
  obtain ⟨C, hty⟩ : ∃ C, (ab_ty ac)[tc]? = some (ac tc, .object C) := by
    rcases htc with rfl | rfl <;> exact ⟨_, rfl⟩
  refine va_aldq E.1.1 E.1.2.1 E.2.2.2.1 N.2.1 b tc (xw_of hh) hty hi hd ?_
  rw [hr]
  exact (kk p l e s m args below meth c dC dI ac sk A ad0 n0 Qs E ad H locs ls N)
theorem v_iret {x : Int32} {ty : FieldType} (hd : decode cc pc = .ok (.ireturn, 1)) (hr : ret = some ty) (hn : narrow ty (.int x) = .int x) (h1 : k ≤ mc) (h2 : n ≤ ms) (hq : Q.1 (some (.int x)) h) : Vd own nm cc nL ret R Q mc ms k n pc L [.int x] h := by
  intro p l e s m args below meth c dC dI ac sk A ad0 n0 Qs E ad H locs ls N
  exact W.widen h1 h2 (E.2.2.2.2.1 ad H locs ls (some (.int x)) .ireturn h pc hq (Or.inr (Or.inl ⟨ty, x, hr, rfl, rfl, hn⟩)) hd (N.loc (fun _ hq => by cases hq)))
theorem v_lret {x : Int64} (hd : decode cc pc = .ok (.lreturn, 1)) (hr : ret = some .long) (h1 : k ≤ mc) (h2 : n ≤ ms) (hq : Q.1 (some (.long x)) h) : Vd own nm cc nL ret R Q mc ms k n pc L [.long x] h := by
  intro p l e s m args below meth c dC dI ac sk A ad0 n0 Qs E ad H locs ls N
  exact W.widen h1 h2 (E.2.2.2.2.1 ad H locs ls (some (.long x)) .lreturn h pc hq (Or.inr (Or.inr (Or.inl ⟨hr, x, rfl, rfl⟩))) hd (N.loc (fun _ hq => by cases hq)))
theorem v_aret {x : Nat} {t : String} (hd : decode cc pc = .ok (.areturn, 1)) (hr : ret = some (.object t)) (h1 : k ≤ mc) (h2 : n ≤ ms) (hq : Q.1 (some (.ref x)) h) : Vd own nm cc nL ret R Q mc ms k n pc L [.ref x] h := by
  intro p l e s m args below meth c dC dI ac sk A ad0 n0 Qs E ad H locs ls N
  exact W.widen h1 h2 (E.2.2.2.2.1 ad H locs ls (some (.ref x)) .areturn h pc hq (Or.inr (Or.inr (Or.inr ⟨t, x, hr, rfl, rfl⟩))) hd (N.loc (fun _ hq => by cases hq)))
theorem v_vret (hd : decode cc pc = .ok (.return_, 1)) (hr : ret = none) (h1 : k ≤ mc) (h2 : n ≤ ms) (hq : Q.1 none h) : Vd own nm cc nL ret R Q mc ms k n pc L [] h := by
  intro p l e s m args below meth c dC dI ac sk A ad0 n0 Qs E ad H locs ls N
  exact W.widen h1 h2 (E.2.2.2.2.1 ad H locs ls none .return_ h pc hq (Or.inl ⟨hr, rfl, rfl⟩) hd (N.loc (fun _ hq => by cases hq)))
end VHEAP
/-! A METHOD'S CONTRACT over the abstract heap -/
def Pq (dC : Nat → ClassId) (dI : Nat → Nat → Nat) (ac : Nat → ClassId) (sk : Nat → Option Nat) (ad0 : Nat → Nat) (n0 : Nat) (A : Nat → Prop) (Q : ab_Q) : Array Value → State → Outcome → State → Prop := fun _ st oc t =>
  (∃ (v : Option Value) (h' : ab_H) (ad' : Nat → Nat), oc = .returned (v.map (xv ad' sk)) ∧ Q.1 v h' ∧ (n0 ≤ h'.length ∧ (∀ j, j < n0 → ad' j = ad0 j) ∧ (h'.length = n0 → ad' = ad0)) ∧ va_P (dC, dI) vwCl (xw ad' sk ac h') t.heap ∧ va_D A (xw ad' sk ac h')) ∧ va_F A st t
def Mt (y : MethodName) (cc : ByteArray) (nL : Nat) (ret : Option FieldType) (R : Room) (as : List Value) (h : ab_H) (Q : ab_Q) : Prop :=
  ∀ (l : Launch) (dC : Nat → ClassId) (dI : Nat → Nat → Nat) (ac : Nat → ClassId) (sk : Nat → Option Nat) (ad : Nat → Nat) (sz : Nat), Met l y (.code y cc nL ret :: gw) R (va_Pc (as.map (xv ad sk)) (fun U => U.heap.size = sz ∧ va_P (dC, dI) vwCl (xw ad sk ac h) U.heap ∧ va_K (dC, dI) vwCl (ab_ty ac) U ∧ va_D (fun _ => True) (xw ad sk ac h) ∧ SX sk (va_A (xw ad sk ac h) sz) U U.heap)) (Pq dC dI ac sk ad h.length (va_A (xw ad sk ac h) sz) Q) R.cells R.slots (va_A (xw ad sk ac h) sz)
theorem lv_args_map (ad : Nat → Nat) (sk : Nat → Option Nat) : ∀ (as : List Value) (i : Nat), lv_args i (as.map (xv ad sk)) = (lv_args i as).map (fun q => (q.1, xv ad sk q.2)) := by
  intro as
  induction as with
  | nil => intro i; rfl
  | cons v t ih =>
    intro i
    simp only [List.map_cons, lv_args, xv_cat, ih]
theorem lg_sl_map (ad : Nat → Nat) (sk : Nat → Option Nat) : ∀ (as : List Value), (lg_sl (as.map (xv ad sk))).length = (lg_sl as).length := by
  intro as
  induction as with
  | nil => rfl
  | cons v t ih =>
    have h1 : ∀ w : Value, ((if w.category = 2 then [Slot.val w, Slot.second] else [Slot.val w]) : List Slot).length = if w.category = 2 then 2 else 1 := fun w => by split <;> rfl
    simp only [lg_sl, List.map_cons, List.flatMap_cons, List.length_append] at ih ⊢
    rw [ih, h1, h1, xv_cat]
set_option maxHeartbeats 4000000 in
theorem Mt.of {y : MethodName} {cc : ByteArray} {nL : Nat} {ret : Option FieldType} {R : Room} {as : List Value} {h : ab_H} {Q : ab_Q} (hy : plainFor y = true) (hX : ∀ s A sk, Q.2 s A sk) (hn : (lg_sl as).length ≤ nL) (hV : Vd y.cls y.name cc nL ret R Q R.cells R.slots 0 0 0 (lv_args 0 as) [] h) : Mt y cc nL ret R as h Q := by
  intro l dC dI ac sk ad sz
  refine va_MetF (cc := cc) (maxL := nL) (ret := ret) hy rfl ?_
  intro p e s m args below meth c s₁ B hml hv
  obtain ⟨rfl, hsz, hP, hK, hD0, hSX⟩ := hv
  have hts : ∀ w ∈ gw, w.before (as.map (xv ad sk)).toArray s = true := fun w hw => atoms_spec (ws := Cond.code y cc nL ret :: gw) B.pre w (List.mem_cons_of_mem _ hw)
  subst hsz
  have hD := hD0.self (sz := s.heap.size)
  have hA : ∀ q : Nat, s.heap.size ≤ q → va_A (xw ad sk ac h) s.heap.size q := fun q h => Or.inr h
  have hS : va_S (va_A (xw ad sk ac h) s.heap.size) s.heap s.heap [] := va_S.rf
  have hl := lv_entry (as.map (xv ad sk)) (n := nL) (by rw [lg_sl_map]; exact hn)
  rw [lg_entry_eq]
  rw [lv_args_map] at hl
  have C : Cx y.cls y.name cc nL ret p s m (as.map (xv ad sk)).toArray meth c := ⟨B.exec, B.bytes, B.returns, hml, findClass_of_methodNamed B.named, hts, B.notSynchronized, (name_of_methodNamed B.named B.method).1⟩
  have hlocks := B.notSynchronized
  refine hV p l e s m _ below meth c dC dI ac sk (va_A (xw ad sk ac h) s.heap.size) ad h.length _ ⟨C, hA, hSX, hK, ?_, hX s _ sk⟩ ad s.heap [] _ ⟨⟨Nat.le_refl _, fun _ _ => rfl, fun _ => rfl⟩, hP, hD, hS, hl⟩
  intro ad' H' locs' ls' v ins h' pcr hq hret hdec N
  have fin : ∀ t : State, t.heap = H' → s.WarmedH t.vm → Pq dC dI ac sk ad h.length (va_A (xw ad sk ac h) s.heap.size) Q (as.map (xv ad sk)).toArray s (.returned (v.map (xv ad' sk))) t := fun t ht _ => ⟨⟨v, h', ad', rfl, hq, N.1, by rw [ht]; exact N.2.1, N.2.2.1⟩, N.2.2.2.1.F ht⟩
  rcases hret with ⟨r1, rfl, rfl⟩ | ⟨ty, x, r1, rfl, rfl, r2⟩ | ⟨r1, x, rfl, rfl⟩ | ⟨t, x, r1, rfl, rfl⟩
  · exact W.vret B.exec B.bytes (B.returns.trans r1) fin N.2.2.2.1.2.2 hdec
  · exact W.zret B.exec B.bytes (B.returns.trans r1) r2 fin N.2.2.2.1.2.2 hdec
  · exact W.lret B.exec B.bytes (B.returns.trans r1) fin N.2.2.2.1.2.2 hdec
  · exact W.aret B.exec B.bytes (B.returns.trans r1) (Or.inl ⟨_, rfl⟩) (Or.inr ⟨_, rfl⟩) fin N.2.2.2.1.2.2 hdec
