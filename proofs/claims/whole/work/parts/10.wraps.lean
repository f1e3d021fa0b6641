
/-! what the printed walks use -/
def rm (d : Nat) : Room := { frames := d, cells := 0, slots := 0, locals := 35 * d }
def ab_eq (v0 : Option Value) (h0 : ab_H) : ab_Q := (fun v h => v = v0 ∧ h = h0, fun _ _ _ => True)
def dl {α β : Type} (e : α) (k : α → β) : β := k e
theorem dl_n {α β : Type} {e : α} {k : α → Option β} {r : β} (h : dl e k = some r) (x : α) (hx : x = e) : k x = some r := by rw [hx]; exact h
theorem g_t {c : Prop} [Decidable c] {α : Type} {a b : Option α} {r : α} (h : (if c then a else b) = some r) (hc : c) : a = some r := by rw [if_pos hc] at h; exact h
theorem g_f {c : Prop} [Decidable c] {α : Type} {a b : Option α} {r : α} (h : (if c then a else b) = some r) (hc : ¬ c) : b = some r := by rw [if_neg hc] at h; exact h
theorem g_b {c : Prop} [Decidable c] {α : Type} {a : Option α} {r : α} (h : (if c then a else none) = some r) : c ∧ a = some r := by
  by_cases hc : c
  · rw [if_pos hc] at h; exact ⟨hc, h⟩
  · rw [if_neg hc] at h; cases h
theorem g_n {c : Prop} [Decidable c] {α : Type} {a : Option α} {r : α} (h : (if c then none else a) = some r) : ¬ c ∧ a = some r := by
  by_cases hc : c
  · rw [if_pos hc] at h; cases h
  · rw [if_neg hc] at h; exact ⟨hc, h⟩
theorem g_bind {α β : Type} {e : Option α} {f : α → Option β} {r : β} (h : e.bind f = some r) : ∃ x, e = some x ∧ f x = some r := by
  cases e with
  | none => cases h
  | some x => exact ⟨x, rfl, h⟩
def gi (i : Int32) (n : Nat) : Bool := !(decide (i < 0) || decide (n ≤ i.toNatClampNeg))
theorem gi_in {i : Int32} {n : Nat} (h : gi i n = true) : vp_in i n := by
  intro q
  simp only [gi, Bool.not_eq_true', Bool.or_eq_false_iff, decide_eq_false_iff_not] at h
  exact q.elim h.1 h.2
def pw (u : Nat → Nat → Int32) (c j : Nat) (x : Int32) : Nat → Nat → Int32 := va_up u c (upd (u c) j x)
def pr (u : Nat → Nat → Int32) (c : Nat) (f : Nat → Int32) : Nat → Nat → Int32 := va_up u c f
def sh (u : Nat → Nat → Int32) (b : Nat) : Nat → Nat → Int32 := fun i => u (b + i)
def pt (u : Nat → Nat → Int32) (b n : Nat) (v : Nat → Nat → Int32) : Nat → Nat → Int32 := fun j => if b ≤ j ∧ j < b + n then v (j - b) else u j
def sj (u v : Nat → Nat → Int32) (n : Nat) : Nat → Nat → Int32 := fun i => if i < n then u i else v (i - n)
def pwl (w : Nat → Int64) (j : Nat) (x : Int64) : Nat → Int64 := va_up w j x
def FU : Nat := 10000
section VWRAP
variable {own nm : String} {cc : ByteArray} {nL : Nat} {ret : Option FieldType} {R : Room} {Q : ab_Q} {mc ms k n pc : Nat} {L : List (Nat × Value)} {st : List Value} {h : ab_H}
theorem v_pti {idx ci j b : Nat} {fs : List Value} {x : Int32} {h2 : ab_H} (hd : decode cc pc = .ok (.putfield idx, 3)) (f : FL own idx ci j .int false) (hh : h[b]? = some (aO ci fs)) (hl : j < fs.length) (he : h.set b (aO ci (fs.set j (.int x))) = h2) (kk : Vd own nm cc nL ret R Q mc ms k n (pc + 3) L st h2) : Vd own nm cc nL ret R Q mc ms k n pc L (.int x :: .ref b :: st) h :=
  v_put hd f hh (fun _ _ => rfl) (fun _ _ => rfl) hl (he ▸ kk)
theorem v_ptz {idx ci j b : Nat} {fs : List Value} {x : Int32} {h2 : ab_H} (hd : decode cc pc = .ok (.putfield idx, 3)) (f : FL own idx ci j .boolean false) (hh : h[b]? = some (aO ci fs)) (hx : x = 0 ∨ x = 1) (hl : j < fs.length) (he : h.set b (aO ci (fs.set j (.int x))) = h2) (kk : Vd own nm cc nL ret R Q mc ms k n (pc + 3) L st h2) : Vd own nm cc nL ret R Q mc ms k n pc L (.int x :: .ref b :: st) h :=
  v_put hd f hh (fun _ _ => by rcases hx with rfl | rfl <;> rfl) (fun _ _ => by rcases hx with rfl | rfl <;> rfl) hl (he ▸ kk)
theorem v_ptl {idx ci j b : Nat} {fs : List Value} {x : Int64} {h2 : ab_H} (hd : decode cc pc = .ok (.putfield idx, 3)) (f : FL own idx ci j .long false) (hh : h[b]? = some (aO ci fs)) (hl : j < fs.length) (he : h.set b (aO ci (fs.set j (.long x))) = h2) (kk : Vd own nm cc nL ret R Q mc ms k n (pc + 3) L st h2) : Vd own nm cc nL ret R Q mc ms k n pc L (.long x :: .ref b :: st) h :=
  v_put hd f hh (fun _ _ => rfl) (fun _ _ => rfl) hl (he ▸ kk)
theorem v_ist {b m0 : Nat} {f : Nat → Int32} {i x : Int32} {h2 : ab_H} (hd : decode cc pc = .ok (.iastore, 1)) (hh : h[b]? = some (aI 0 m0 f)) (hi : vp_in i m0) (he : h.set b (aI 0 m0 (upd f i.toNatClampNeg x)) = h2) (kk : Vd own nm cc nL ret R Q mc ms k n (pc + 1) L st h2) : Vd own nm cc nL ret R Q mc ms k n pc L (.int x :: .int i :: .ref b :: st) h := v_iast hd hh hi (he ▸ kk)
theorem v_bst {b m0 : Nat} {f : Nat → Int32} {i x : Int32} {h2 : ab_H} (hd : decode cc pc = .ok (.bastore, 1)) (hh : h[b]? = some (aI 1 m0 f)) (hi : vp_in i m0) (he : h.set b (aI 1 m0 (upd f i.toNatClampNeg (vp_nar .byte x))) = h2) (kk : Vd own nm cc nL ret R Q mc ms k n (pc + 1) L st h2) : Vd own nm cc nL ret R Q mc ms k n pc L (.int x :: .int i :: .ref b :: st) h := v_bast hd hh hi (he ▸ kk)
theorem v_zst {b m0 : Nat} {f : Nat → Int32} {i x : Int32} {h2 : ab_H} (hd : decode cc pc = .ok (.bastore, 1)) (hh : h[b]? = some (aI 2 m0 f)) (hi : vp_in i m0) (he : h.set b (aI 2 m0 (upd f i.toNatClampNeg (vp_nar .boolean x))) = h2) (kk : Vd own nm cc nL ret R Q mc ms k n (pc + 1) L st h2) : Vd own nm cc nL ret R Q mc ms k n pc L (.int x :: .int i :: .ref b :: st) h := v_zast hd hh hi (he ▸ kk)
theorem v_iretE {x : Int32} {ty : FieldType} {v0 : Option Value} {h0 : ab_H} {d : Nat} (hd : decode cc pc = .ok (.ireturn, 1)) (hr : ret = some ty) (hn : narrow ty (.int x) = .int x) (h1 : some (.int x) = v0) (h2 : h = h0) : Vd own nm cc nL ret (rm d) (ab_eq v0 h0) 0 0 0 0 pc L [.int x] h := v_iret hd hr hn (Nat.le_refl _) (Nat.le_refl _) ⟨h1, h2⟩
theorem v_lretE {x : Int64} {v0 : Option Value} {h0 : ab_H} {d : Nat} (hd : decode cc pc = .ok (.lreturn, 1)) (hr : ret = some .long) (h1 : some (.long x) = v0) (h2 : h = h0) : Vd own nm cc nL ret (rm d) (ab_eq v0 h0) 0 0 0 0 pc L [.long x] h := v_lret hd hr (Nat.le_refl _) (Nat.le_refl _) ⟨h1, h2⟩
theorem v_aretE {x : Nat} {t : String} {v0 : Option Value} {h0 : ab_H} {d : Nat} (hd : decode cc pc = .ok (.areturn, 1)) (hr : ret = some (.object t)) (h1 : some (.ref x) = v0) (h2 : h = h0) : Vd own nm cc nL ret (rm d) (ab_eq v0 h0) 0 0 0 0 pc L [.ref x] h := v_aret hd hr (Nat.le_refl _) (Nat.le_refl _) ⟨h1, h2⟩
theorem v_vretE {v0 : Option Value} {h0 : ab_H} {d : Nat} (hd : decode cc pc = .ok (.return_, 1)) (hr : ret = none) (h1 : none = v0) (h2 : h = h0) : Vd own nm cc nL ret (rm d) (ab_eq v0 h0) 0 0 0 0 pc L [] h := v_vret hd hr (Nat.le_refl _) (Nat.le_refl _) ⟨h1, h2⟩
theorem rm_ok {d e nL : Nat} (h : d + 1 ≤ e) (h2 : nL ≤ 16) : (rm d).frames + 1 ≤ (rm e).frames ∧ 8 + (nL + 11) + (rm d).locals ≤ (rm e).locals := by
  simp only [rm]
  omega
variable {y : MethodName} {cy : ByteArray} {nLy : Nat} {rety : Option FieldType} {as : List Value} {hs h0 h2 : ab_H} {v0 : Option Value} {d dy : Nat} {st2 : List Value}
theorem v_cV {idx np b ci : Nat} {As : List Value} {fs : List Value} {stk : List Value} (rr : List Nat) (hd : decode cc pc = .ok (.invokevirtual idx, 3)) (f : MV own idx y cy nLy rety np) (hM : Mt y cy nLy rety (rm dy) as hs (ab_eq v0 h0)) (hr : rr.map (fun j => h[j]?) = hs.map (fun c => some (rc (ab_r rr) c))) (hnd : va_nd rr = true) (ha : as.map (rv (ab_r rr)) = .ref b :: As) (hstk : stk = As.reverse ++ .ref b :: st) (hnp : As.length = np) (hb : h[b]? = some (aO ci fs)) (hci : (vwCl[ci]?).map (fun q => q.1) = some y.cls) (hcat : Nat.ble (st.map fun v => v.category).sum 8 = true) (hR : dy + 1 ≤ d) (hR2 : nLy ≤ 16) (hlen : h0.length = hs.length) (hst : (v0.map (rv (ab_r rr))).toList ++ st = st2) (hh : ab_put h rr (h0.map (rc (ab_r rr))) = h2) (kk : Vd own nm cc nL ret (rm d) Q mc ms 0 0 (pc + 3) L st2 h2) : Vd own nm cc nL ret (rm d) Q mc ms 0 0 pc L stk h :=
  v_invV rr hd f hM hr hnd ha hstk hnp hb hci (Nat.le_of_ble_eq_true hcat) ⟨rfl, rfl⟩ (rm_ok hR hR2) ⟨Nat.le_refl _, Nat.le_refl _⟩ (fun v h' hq => by rw [hq.2]; exact hlen) (fun v h' hq => by rw [hq.1, hq.2, hst, hh]; exact kk)
theorem v_cS {idx np : Nat} {As : List Value} {stk : List Value} (rr : List Nat) (hd : decode cc pc = .ok (.invokestatic idx, 3)) (f : MS own idx y cy nLy rety np) (hM : Mt y cy nLy rety (rm dy) as hs (ab_eq v0 h0)) (hr : rr.map (fun j => h[j]?) = hs.map (fun c => some (rc (ab_r rr) c))) (hnd : va_nd rr = true) (ha : as.map (rv (ab_r rr)) = As) (hstk : stk = As.reverse ++ st) (hnp : As.length = np) (hcat : Nat.ble (st.map fun v => v.category).sum 8 = true) (hR : dy + 1 ≤ d) (hR2 : nLy ≤ 16) (hlen : h0.length = hs.length) (hst : (v0.map (rv (ab_r rr))).toList ++ st = st2) (hh : ab_put h rr (h0.map (rc (ab_r rr))) = h2) (kk : Vd own nm cc nL ret (rm d) Q mc ms 0 0 (pc + 3) L st2 h2) : Vd own nm cc nL ret (rm d) Q mc ms 0 0 pc L stk h :=
  v_invS rr hd f hM hr hnd ha hstk hnp (Nat.le_of_ble_eq_true hcat) ⟨rfl, rfl⟩ (rm_ok hR hR2) ⟨Nat.le_refl _, Nat.le_refl _⟩ (fun v h' hq => by rw [hq.2]; exact hlen) (fun v h' hq => by rw [hq.1, hq.2, hst, hh]; exact kk)
theorem v_cN {idx np : Nat} {host : String} {As : List Value} {stk : List Value} (rr : List Nat) (hd : decode cc pc = .ok (.invokestatic idx, 3)) (f : MN own idx y host cy nLy rety np) (hM : Mt y cy nLy rety (rm dy) as hs (ab_eq v0 h0)) (hr : rr.map (fun j => h[j]?) = hs.map (fun c => some (rc (ab_r rr) c))) (hnd : va_nd rr = true) (ha : as.map (rv (ab_r rr)) = As) (hstk : stk = As.reverse ++ st) (hnp : As.length = np) (hcat : Nat.ble (st.map fun v => v.category).sum 8 = true) (hR : dy + 1 ≤ d) (hR2 : nLy ≤ 16) (hlen : h0.length = hs.length) (hst : (v0.map (rv (ab_r rr))).toList ++ st = st2) (hh : ab_put h rr (h0.map (rc (ab_r rr))) = h2) (kk : Vd own nm cc nL ret (rm d) Q mc ms 0 0 (pc + 3) L st2 h2) : Vd own nm cc nL ret (rm d) Q mc ms 0 0 pc L stk h :=
  v_invN rr hd f hM hr hnd ha hstk hnp (Nat.le_of_ble_eq_true hcat) ⟨rfl, rfl⟩ (rm_ok hR hR2) ⟨Nat.le_refl _, Nat.le_refl _⟩ (fun v h' hq => by rw [hq.2]; exact hlen) (fun v h' hq => by rw [hq.1, hq.2, hst, hh]; exact kk)
theorem v_nmu {F : (Nat → Nat → Int32) → ab_H} {e : Nat → Nat → Int32} (kk : ∀ z, z = e → Vd own nm cc nL ret R Q mc ms k n pc L st (F z)) : Vd own nm cc nL ret R Q mc ms k n pc L st (F e) := kk e rfl
end VWRAP
/-- a call on the same heap -/
theorem xw_idx {ad : Nat → Nat} {sk : Nat → Option Nat} {ac : Nat → ClassId} {h : ab_H} : (List.range h.length).map (fun i => (xw ad sk ac h)[i]?) = (xw ad sk ac h).map some := by
  have hl : (xw ad sk ac h).length = h.length := by simp [xw]
  apply List.ext_getElem?
  intro i
  rw [List.getElem?_map, List.getElem?_map]
  by_cases hi : i < h.length
  · rw [List.getElem?_range hi]
    show some ((xw ad sk ac h)[i]?) = Option.map some ((xw ad sk ac h)[i]?)
    rw [List.getElem?_eq_getElem (show i < (xw ad sk ac h).length by omega)]
    rfl
  · rw [List.getElem?_eq_none (by simp; omega), List.getElem?_eq_none (by omega)]
    rfl
section VSAME
variable {own nm : String} {cc : ByteArray} {nL : Nat} {ret : Option FieldType} {R : Room} {Q : ab_Q} {mc ms k n pc : Nat} {L : List (Nat × Value)} {st : List Value} {h : ab_H}
variable {y : MethodName} {cy : ByteArray} {nLy : Nat} {rety : Option FieldType} {h0 : ab_H} {v0 : Option Value} {d dy : Nat} {st2 : List Value}
set_option maxHeartbeats 4000000 in
theorem v_cI {idx np b ci : Nat} {As : List Value} {fs : List Value} {stk : List Value} (hd : decode cc pc = .ok (.invokevirtual idx, 3)) (f : MV own idx y cy nLy rety np) (hM : Mt y cy nLy rety (rm dy) (.ref b :: As) h (ab_eq v0 h0)) (hstk : stk = As.reverse ++ .ref b :: st) (hnp : As.length = np) (hb : h[b]? = some (aO ci fs)) (hci : (vwCl[ci]?).map (fun q => q.1) = some y.cls) (hcat : Nat.ble (st.map fun v => v.category).sum 8 = true) (hR : dy + 1 ≤ d) (hR2 : nLy ≤ 16) (hlen : h0.length = h.length) (hst : v0.toList ++ st = st2) (kk : Vd own nm cc nL ret (rm d) Q mc ms 0 0 (pc + 3) L st2 h0) : Vd own nm cc nL ret (rm d) Q mc ms 0 0 pc L stk h := by
  intro p l e s m args below meth c dC dI ac sk A ad0 n0 Qs E ad H locs ls N
  obtain ⟨f1, f2, f3, f4, f5, f6⟩ := f
  have hM := hM l dC dI ac sk ad H.size
  obtain ⟨q, hq1, hq2⟩ : ∃ q, vwCl[ci]? = some q ∧ q.1 = y.cls := by
    cases hc : vwCl[ci]? with
    | none => rw [hc] at hci; cases hci
    | some q => rw [hc] at hci; exact ⟨q, rfl, Option.some.inj hci⟩
  have hg : GoodIn gw (wsV own idx y.cls y (Cond.code y cy nLy rety :: gw)) := fun w hw => by
    rcases List.mem_append.mp hw with hw | hw
    · simp only [List.mem_cons, List.not_mem_nil, or_false] at hw
      rcases hw with rfl | rfl | rfl | rfl
      · exact gw_all _ f1
      · exact gw_all _ f2
      · exact gw_all _ f3
      · exact gw_all _ f4
    · exact gw_code f5 w hw
  obtain ⟨hx, hP, hD, hS, hl⟩ := N
  have hF := va_free hD hS E.2.1 (List.range h.length) (xw_idx (ad := ad) (sk := sk) (ac := ac))
  have hpre : ∀ U : State, U.heap = H → s.WarmedH U.vm → va_Pc ((Value.ref b :: As).map (xv ad sk)) (fun U => U.heap.size = H.size ∧ va_P (dC, dI) vwCl (xw ad sk ac h) U.heap ∧ va_K (dC, dI) vwCl (ab_ty ac) U ∧ va_D (fun _ => True) (xw ad sk ac h) ∧ SX sk (va_A (xw ad sk ac h) H.size) U U.heap) ((Value.ref b :: As).map (xv ad sk)).toArray U := fun U hU hW => ⟨rfl, by rw [hU], by rw [hU]; exact hP, va_K.moved hW.alike E.2.2.2.1, hD.weaken (fun _ _ _ _ => trivial), SX.move E.2.2.1 hS hW hU hF⟩
  subst hstk
  have run := va_runV (As := As.map (xv ad sk)) (rest := st.map (xv ad sk)) (b := ad b) (g := F0 m pc ls ((As.reverse ++ Value.ref b :: st).map (xv ad sk))) (locs := locs) (cells := 0) (slots := 0) (below := below) (meth := meth) (e := e) ⟨E.1.1, E.1.2.1, E.1.2.2.2.1, E.1.2.2.2.2.1, E.1.2.2.2.2.2.1⟩ hM (cwV np E.1.2.2.2.2.2.1 hg rfl rfl rfl ⟨rfl, f6.1, f6.2.1, f6.2.2⟩ (rm_ok hR hR2)) ⟨Mt.blind, by rw [← hq2]; exact va_recv E.2.2.2.1 hP hq1 (xw_of hb), hpre⟩ rfl (by rw [List.length_map]; exact hnp) hl.1 (by show List.map _ _ = _; simp [xv]) (lv_room (by rw [xv_cats]; exact Nat.le_of_ble_eq_true hcat)) hd ⟨Nat.le_refl _, Nat.le_refl _⟩
  intro T hT X
  obtain ⟨v, st₀, t, T', Lx, e0, X', hL, e1, e2, ⟨⟨v', h', ad', hv, hq, ⟨-, -, hy⟩, hP1, hD1⟩, hz, hk⟩, stp⟩ := run T hT X
  obtain ⟨rfl, rfl⟩ := hq
  have had := hy hlen
  subst had
  obtain rfl : v = v'.map (xv ad' sk) := by cases hv; rfl
  rw [e0] at hz hk
  rw [← e1] at hP1 hz hk
  have hS' : va_S A s.heap T'.heap (locs ++ Lx) := ⟨Nat.le_trans hS.1 hz, fun q h1 h2 => by rw [hk q (Nat.lt_of_lt_of_le h1 hS.1) (fun z => h2 (hF q z))]; exact hS.2.1 q h1 h2, fun q hq => by
      rcases List.mem_append.mp hq with h | h
      · exact hS.2.2 q h
      · exact hF _ (hL q h)⟩
  have w := kk p l e s m args below meth c dC dI ac sk A ad0 n0 Qs E ad' T'.heap (locs ++ Lx) ls ⟨⟨by rw [hlen]; exact hx.1, hx.2.1, by rw [hlen]; exact hx.2.2⟩, hP1, hD1.weaken (fun _ _ _ h => hF _ h), hS', hl⟩
  obtain ⟨t2, a1, b1⟩ := w T' rfl X'
  refine ⟨t2, stp t2 ?_, b1⟩
  have e9 : (v'.map (xv ad' sk)).toList ++ st.map (xv ad' sk) = st2.map (xv ad' sk) := by
    rw [← hst]
    cases v' <;> simp
  show Steps p.tables e below (T'.setTop { F0 m pc ls ((As.reverse ++ Value.ref b :: st).map (xv ad' sk)) with pc := pc + 3, stack := (v'.map (xv ad' sk)).toList ++ st.map (xv ad' sk) }) t2
  rw [e9]
  exact a1
end VSAME
