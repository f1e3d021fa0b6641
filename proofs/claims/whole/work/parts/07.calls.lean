
/-! CALLS: the callee's small heap lies in the caller's at the places rr -/
def rv (r : Nat → Nat) : Value → Value
  | .ref k => .ref (r k)
  | .retAddr i => .retAddr i
  | .int x => .int x
  | .long x => .long x
  | .float x => .float x
  | .double x => .double x
  | .null => .null
def rc (r : Nat → Nat) : ab_C → ab_C
  | .inl (t, n, f) => .inl (t, n, f)
  | .inr (.inl (t, l)) => .inr (.inl (t, l.map (fun o => o.map r)))
  | .inr (.inr (c, fs)) => .inr (.inr (c, fs.map (rv r)))
theorem xv_rv (ad : Nat → Nat) (sk : Nat → Option Nat) (r : Nat → Nat) (v : Value) : xv (fun i => ad (r i)) sk v = xv ad sk (rv r v) := by cases v <;> rfl
theorem xc_rc (ad : Nat → Nat) (sk : Nat → Option Nat) (r : Nat → Nat) (ac : Nat → ClassId) (c : ab_C) : xc (fun i => ad (r i)) sk ac c = xc ad sk ac (rc r c) := by
  rcases c with ⟨t, n, f⟩ | ⟨t, l⟩ | ⟨c, fs⟩
  · rfl
  · have e : (fun j => (l.getD j none).map (fun i => ad (r i))) = (fun j => ((l.map (fun o => o.map r)).getD j none).map ad) := by
      funext j
      simp only [List.getD_eq_getElem?_getD, List.getElem?_map]
      cases l[j]? with
      | none => rfl
      | some o => cases o <;> rfl
    simp only [xc, rc, List.length_map, e]
  · simp only [xc, rc, List.map_map]
    congr 2
    exact List.map_congr_left (fun v _ => xv_rv ad sk r v)
def ab_r (rr : List Nat) : Nat → Nat := fun i => rr.getD i 0
def ab_put : ab_H → List Nat → List ab_C → ab_H
  | h, [], _ => h
  | h, _ :: _, [] => h
  | h, j :: rr, c :: cs => ab_put (h.set j c) rr cs
theorem ab_put_len : ∀ (rr : List Nat) (cs : List ab_C) (h : ab_H), (ab_put h rr cs).length = h.length := by
  intro rr
  induction rr with
  | nil => intro cs h; cases cs <;> rfl
  | cons j rr ih =>
    intro cs h
    cases cs with
    | nil => rfl
    | cons c cs => rw [ab_put, ih, List.length_set]
theorem ab_put_out : ∀ (rr : List Nat) (cs : List ab_C) (h : ab_H) (q : Nat), q ∉ rr → (ab_put h rr cs)[q]? = h[q]? := by
  intro rr
  induction rr with
  | nil => intro cs h q _; cases cs <;> rfl
  | cons j rr ih =>
    intro cs h q hq
    cases cs with
    | nil => rfl
    | cons c cs =>
      rw [ab_put, ih cs _ q (fun z => hq (List.mem_cons_of_mem _ z)), List.getElem?_set_ne (fun e => hq (by rw [e]; exact List.mem_cons_self))]
theorem ab_put_in : ∀ (rr : List Nat) (cs : List ab_C) (h : ab_H) (i q : Nat), va_nd rr = true → rr.length = cs.length → rr[i]? = some q → q < h.length → (ab_put h rr cs)[q]? = cs[i]? := by
  intro rr
  induction rr with
  | nil => intro cs h i q _ _ hi; simp at hi
  | cons j rr ih =>
    intro cs h i q hn hl hi hq
    cases cs with
    | nil => simp at hl
    | cons c cs =>
      simp only [va_nd, Bool.and_eq_true, decide_eq_true_eq] at hn
      rw [ab_put]
      cases i with
      | zero =>
        have e : j = q := by simpa using hi
        subst e
        rw [ab_put_out rr cs _ j hn.1, List.getElem?_set_self hq]
        rfl
      | succ i =>
        rw [ih cs _ i q hn.2 (by simpa using hl) (by simpa using hi) (by rw [List.length_set]; exact hq)]
        rfl
section VCALL
variable {own nm : String} {cc : ByteArray} {nL : Nat} {ret : Option FieldType} {R : Room} {Q : ab_Q} {mc ms k n pc : Nat} {L : List (Nat × Value)} {st : List Value} {h : ab_H}
theorem ab_sub {ad : Nat → Nat} {sk : Nat → Option Nat} {ac : Nat → ClassId} {rr : List Nat} {hs : ab_H} (hr : rr.map (fun j => h[j]?) = hs.map (fun c => some (rc (ab_r rr) c))) : rr.map (fun i => (xw ad sk ac h)[i]?) = (xw (fun i => ad (ab_r rr i)) sk ac hs).map some := by
  apply List.ext_getElem?
  intro i
  have h1 := congrArg (fun z => z[i]?) hr
  simp only [List.getElem?_map] at h1 ⊢
  rw [xw_at]
  cases hi : rr[i]? with
  | none =>
    rw [hi] at h1
    cases hc : hs[i]? with
    | none => rfl
    | some c => rw [hc] at h1; cases h1
  | some j =>
    rw [hi] at h1
    cases hc : hs[i]? with
    | none => rw [hc] at h1; cases h1
    | some c =>
      rw [hc] at h1
      have h2 : h[j]? = some (rc (ab_r rr) c) := Option.some.inj h1
      have hj : ab_r rr i = j := by simp [ab_r, List.getD_eq_getElem?_getD, hi]
      show some ((xw ad sk ac h)[j]?) = some (some _)
      rw [xw_of h2]
      show some (some (ad j, xc ad sk ac (rc (ab_r rr) c))) = some (some (ad (ab_r rr i), xc (fun i => ad (ab_r rr i)) sk ac c))
      rw [xc_rc ad sk (ab_r rr) ac c, hj]
set_option maxHeartbeats 4000000 in
theorem ab_cont {p : Program} {l : Launch} {e : Env} {s : State} {m : MethodId} {args : Array Value} {below : List Frame} {meth : Method} {c : Code} {dC : Nat → ClassId} {dI : Nat → Nat → Nat} {ac : Nat → ClassId} {sk : Nat → Option Nat} {A : Nat → Prop} {ad0 : Nat → Nat} {n0 : Nat} {Qs : State → Prop}
    (E : Ev own nm cc nL ret R Q mc ms p l e s m args below meth c dC dI ac sk A ad0 n0 Qs) {ad : Nat → Nat} {H : Heap} {locs : List Loc} {ls : Array Slot} (N : Nw dC dI ac sk A ad0 n0 s nL L h ad H locs ls) (rr : List Nat) {hs : ab_H} (hr : rr.map (fun j => h[j]?) = hs.map (fun c => some (rc (ab_r rr) c))) (hnd : va_nd rr = true) {Qc : ab_Q} {a : Array Value} {st0 : List Value}
    (run : va_Run p l e R s m args below meth c H locs k n 0 0 (F0 m pc ls st0) (st.map (xv ad sk)) (Pq dC dI ac sk (fun i => ad (ab_r rr i)) hs.length (va_A (xw (fun i => ad (ab_r rr i)) sk ac hs) H.size) Qc a) (va_A (xw (fun i => ad (ab_r rr i)) sk ac hs) H.size))
    (hlen : ∀ v h', Qc.1 v h' → h'.length = hs.length) (kk : ∀ v h', Qc.1 v h' → Vd own nm cc nL ret R Q mc ms k n (pc + 3) L ((v.map (rv (ab_r rr))).toList ++ st) (ab_put h rr (h'.map (rc (ab_r rr))))) : W p l e R s m args below meth c H locs k n Qs (F0 m pc ls st0) := by
  have hC := ab_sub (ad := ad) (sk := sk) (ac := ac) hr
  obtain ⟨hx, hP, hD, hS, hl⟩ := N
  have hF := va_free hD hS E.2.1 rr hC
  have hll : rr.length = hs.length := by simpa using congrArg List.length hr
  intro T hT X
  obtain ⟨v, st₀, t, T', Lx, h0, X', hL, e1, e2, ⟨⟨v', h', ad', hv, hq, ⟨-, -, hy⟩, hP1, hD1⟩, hz, hk⟩, stp⟩ := run T hT X
  have hlh := hlen v' h' hq
  have had := hy hlh
  subst had
  obtain rfl : v = v'.map (xv (fun i => ad (ab_r rr i)) sk) := by cases hv; rfl
  rw [h0] at hz hk
  rw [← e1] at hP1 hz hk
  have hS' : va_S A s.heap T'.heap (locs ++ Lx) := ⟨Nat.le_trans hS.1 hz, fun q h1 h2 => by rw [hk q (Nat.lt_of_lt_of_le h1 hS.1) (fun z => h2 (hF q z))]; exact hS.2.1 q h1 h2, fun q hq => by
      rcases List.mem_append.mp hq with h | h
      · exact hS.2.2 q h
      · exact hF _ (hL q h)⟩
  have hsub : ∀ (i : Nat) (x : Nat × va_E), (xw (fun i => ad (ab_r rr i)) sk ac hs)[i]? = some x → ∃ j, rr[i]? = some j ∧ (xw ad sk ac h)[j]? = some x := by
    intro i x hi
    have h1 := congrArg (fun z => z[i]?) hC
    simp only [List.getElem?_map] at h1
    rw [hi] at h1
    cases hj : rr[i]? with
    | none => rw [hj] at h1; cases h1
    | some j =>
      rw [hj] at h1
      exact ⟨j, rfl, Option.some.inj h1⟩
  have hin : ∀ (i j : Nat), rr[i]? = some j → j < h.length := by
    intro i j hi
    have h1 := congrArg (fun z => z[i]?) hr
    simp only [List.getElem?_map] at h1
    rw [hi] at h1
    cases hc : hs[i]? with
    | none => rw [hc] at h1; cases h1
    | some c =>
      rw [hc] at h1
      exact (List.getElem?_eq_some_iff.mp (Option.some.inj h1)).1
  have hlp : (ab_put h rr (h'.map (rc (ab_r rr)))).length = h.length := ab_put_len _ _ _
  have hP2 : va_P (dC, dI) vwCl (xw ad sk ac (ab_put h rr (h'.map (rc (ab_r rr))))) T'.heap := by
    intro q x hx2
    rw [xw_at] at hx2
    by_cases hqr : q ∈ rr
    · obtain ⟨i, hi⟩ := List.getElem?_of_mem hqr
      rw [ab_put_in rr _ h i q hnd (by rw [List.length_map, hlh, hll]) hi (hin i q hi), List.getElem?_map] at hx2
      cases hc : h'[i]? with
      | none => rw [hc] at hx2; cases hx2
      | some c =>
        rw [hc] at hx2
        have e : x = (ad q, xc ad sk ac (rc (ab_r rr) c)) := (Option.some.inj hx2).symm
        rw [e, ← xc_rc]
        have hj : ab_r rr i = q := by simp [ab_r, List.getD_eq_getElem?_getD, hi]
        have h2 := hP1 i _ (xw_of hc)
        rw [hj] at h2
        exact h2
    · rw [ab_put_out rr _ h q hqr] at hx2
      have h3 : (xw ad sk ac h)[q]? = some x := by rw [xw_at]; exact hx2
      have hlt := (hP q x h3).lt
      refine (hP q x h3).kept (hk x.1 hlt (fun z => ?_))
      rcases z with ⟨i, e, hi⟩ | z
      · obtain ⟨j, h4, h5⟩ := hsub i _ hi
        have := hD.1 q j _ _ h3 h5 rfl
        subst this
        exact hqr (List.mem_of_getElem? h4)
      · omega
  have hD2 : va_D A (xw ad sk ac (ab_put h rr (h'.map (rc (ab_r rr))))) := by
    have key : ∀ (q : Nat) (x : Nat × va_E), (xw ad sk ac (ab_put h rr (h'.map (rc (ab_r rr)))))[q]? = some x → ∃ y, (xw ad sk ac h)[q]? = some y ∧ y.1 = x.1 := by
      intro q x hx2
      have hlt : q < h.length := by
        have := (List.getElem?_eq_some_iff.mp hx2).1
        simpa [xw, hlp] using this
      refine ⟨_, xw_of (List.getElem?_eq_getElem hlt), ?_⟩
      rw [xw_at] at hx2
      cases hc : (ab_put h rr (h'.map (rc (ab_r rr))))[q]? with
      | none => rw [hc] at hx2; cases hx2
      | some c => rw [hc] at hx2; rw [← Option.some.inj hx2]
    refine ⟨fun i j x y hi hj hxy => ?_, fun q x hx2 => ?_⟩
    · obtain ⟨x0, a1, a2⟩ := key i x hi
      obtain ⟨y0, b1, b2⟩ := key j y hj
      exact hD.1 i j x0 y0 a1 b1 (a2.trans (hxy.trans b2.symm))
    · obtain ⟨x0, a1, a2⟩ := key q x hx2
      rw [← a2]
      exact hD.2 q x0 a1
  have w := kk v' h' hq p l e s m args below meth c dC dI ac sk A ad0 n0 Qs E ad T'.heap (locs ++ Lx) ls ⟨⟨by rw [hlp]; exact hx.1, hx.2.1, by rw [hlp]; exact hx.2.2⟩, hP2, hD2, hS', hl⟩
  obtain ⟨t2, a1, b1⟩ := w T' rfl X'
  refine ⟨t2, stp t2 ?_, b1⟩
  have e9 : (v'.map (xv (fun i => ad (ab_r rr i)) sk)).toList ++ st.map (xv ad sk) = ((v'.map (rv (ab_r rr))).toList ++ st).map (xv ad sk) := by
    cases v' with
    | none => rfl
    | some v' => simp [xv_rv]
  show Steps p.tables e below (T'.setTop { F0 m pc ls st0 with pc := pc + 3, stack := (v'.map (xv (fun i => ad (ab_r rr i)) sk)).toList ++ st.map (xv ad sk) }) t2
  rw [e9]
  exact a1
/-- an instance method that a link names -/
def MV (own : String) (idx : Nat) (y : MethodName) (cc : ByteArray) (nL : Nat) (ret : Option FieldType) (np : Nat) : Prop :=
  Cond.methodLink own idx y ∈ gw ∧ Cond.instanceMethod y ∈ gw ∧ Cond.selects y.cls y y ∈ gw ∧ Cond.initialized y.cls ∈ gw ∧ Cond.code y cc nL ret ∈ gw ∧ (y.cls ≠ "java/lang/invoke/MethodHandle" ∧ y.cls ≠ "java/lang/invoke/VarHandle" ∧ (parseMethodDescriptor y.desc).map (fun d => d.parameters.length) = some np)
def MS (own : String) (idx : Nat) (y : MethodName) (cc : ByteArray) (nL : Nat) (ret : Option FieldType) (np : Nat) : Prop :=
  Cond.methodLink own idx y ∈ gw ∧ Cond.static y ∈ gw ∧ Cond.initialized y.cls ∈ gw ∧ Cond.code y cc nL ret ∈ gw ∧ (y.cls ≠ "java/lang/invoke/MethodHandle" ∧ y.cls ≠ "java/lang/invoke/VarHandle" ∧ (parseMethodDescriptor y.desc).map (fun d => d.parameters.length) = some np)
def MN (own : String) (idx : Nat) (y : MethodName) (host : String) (cc : ByteArray) (nL : Nat) (ret : Option FieldType) (np : Nat) : Prop :=
  Cond.methodLinkNest own idx y host ∈ lw_tbl ∧ Cond.static y ∈ gw ∧ Cond.initialized y.cls ∈ gw ∧ Cond.code y cc nL ret ∈ gw ∧ (y.cls ≠ "java/lang/invoke/MethodHandle" ∧ y.cls ≠ "java/lang/invoke/VarHandle" ∧ (parseMethodDescriptor y.desc).map (fun d => d.parameters.length) = some np)
theorem gw_code {y : MethodName} {cc : ByteArray} {nL : Nat} {ret : Option FieldType} (h : Cond.code y cc nL ret ∈ gw) : GoodIn gw (Cond.code y cc nL ret :: gw) := fun w hw => by
  rcases List.mem_cons.mp hw with rfl | hw
  · exact gw_all _ h
  · exact gw_all _ hw
theorem Mt.blind {dC : Nat → ClassId} {dI : Nat → Nat → Nat} {ac : Nat → ClassId} {sk : Nat → Option Nat} {ad : Nat → Nat} {as : List Value} {hs : ab_H} {sz : Nat} : FrameBlind (va_Pc (as.map (xv ad sk)) (fun U => U.heap.size = sz ∧ va_P (dC, dI) vwCl (xw ad sk ac hs) U.heap ∧ va_K (dC, dI) vwCl (ab_ty ac) U ∧ va_D (fun _ => True) (xw ad sk ac hs) ∧ SX sk (va_A (xw ad sk ac hs) sz) U U.heap)) := fun a U g mk q => by
  obtain ⟨q0, q1, qP, qK, qD, qX⟩ := q
  exact ⟨q0, q1, qP, va_K.moved (u := U) (U := U.calling g mk a) (Vm.Alike.refl U.vm) qK, qD, SX.same (u := U) (U := U.calling g mk a) rfl qX⟩
theorem Mt.pre {p : Program} {l : Launch} {e : Env} {s : State} {m : MethodId} {args : Array Value} {below : List Frame} {meth : Method} {c : Code} {dC : Nat → ClassId} {dI : Nat → Nat → Nat} {ac : Nat → ClassId} {sk : Nat → Option Nat} {A : Nat → Prop} {ad0 : Nat → Nat} {n0 : Nat} {Qs : State → Prop}
    (E : Ev own nm cc nL ret R Q mc ms p l e s m args below meth c dC dI ac sk A ad0 n0 Qs) {ad : Nat → Nat} {H : Heap} {locs : List Loc} {ls : Array Slot} (N : Nw dC dI ac sk A ad0 n0 s nL L h ad H locs ls) (rr : List Nat) {hs : ab_H} (hr : rr.map (fun j => h[j]?) = hs.map (fun c => some (rc (ab_r rr) c))) (hnd : va_nd rr = true) {as As : List Value} (ha : as.map (rv (ab_r rr)) = As) :
    ∀ U : State, U.heap = H → s.WarmedH U.vm → va_Pc (as.map (xv (fun i => ad (ab_r rr i)) sk)) (fun U => U.heap.size = H.size ∧ va_P (dC, dI) vwCl (xw (fun i => ad (ab_r rr i)) sk ac hs) U.heap ∧ va_K (dC, dI) vwCl (ab_ty ac) U ∧ va_D (fun _ => True) (xw (fun i => ad (ab_r rr i)) sk ac hs) ∧ SX sk (va_A (xw (fun i => ad (ab_r rr i)) sk ac hs) H.size) U U.heap) (As.map (xv ad sk)).toArray U := by
  intro U hU hW
  have hC := ab_sub (ad := ad) (sk := sk) (ac := ac) hr
  have hC2 : rr.filterMap (fun i => (xw ad sk ac h)[i]?) = xw (fun i => ad (ab_r rr i)) sk ac hs := by
    have h1 : (rr.map (fun i => (xw ad sk ac h)[i]?)).filterMap id = ((xw (fun i => ad (ab_r rr i)) sk ac hs).map some).filterMap id := by rw [hC]
    simpa [List.filterMap_map] using h1
  have hP := N.2.1.sub rr hC2
  have hD := N.2.2.1.sub rr hnd hC
  have hF := va_free N.2.2.1 N.2.2.2.1 E.2.1 rr hC
  refine ⟨?_, by rw [hU], by rw [hU]; exact hP, va_K.moved hW.alike E.2.2.2.1, hD.weaken (fun _ _ _ _ => trivial), SX.move E.2.2.1 N.2.2.2.1 hW hU hF⟩
  rw [← ha, List.map_map]
  congr 1
  exact List.map_congr_left (fun v _ => (xv_rv ad sk (ab_r rr) v).symm)
variable {y : MethodName} {cy : ByteArray} {nLy : Nat} {rety : Option FieldType} {Ry : Room} {as : List Value} {hs : ab_H} {Qc : ab_Q}
set_option maxHeartbeats 4000000 in
theorem v_invV {idx np b ci : Nat} {As : List Value} {fs : List Value} {stk : List Value} (rr : List Nat) (hd : decode cc pc = .ok (.invokevirtual idx, 3)) (f : MV own idx y cy nLy rety np) (hM : Mt y cy nLy rety Ry as hs Qc) (hr : rr.map (fun j => h[j]?) = hs.map (fun c => some (rc (ab_r rr) c))) (hnd : va_nd rr = true) (ha : as.map (rv (ab_r rr)) = .ref b :: As) (hstk : stk = As.reverse ++ .ref b :: st) (hnp : As.length = np) (hb : h[b]? = some (aO ci fs)) (hci : (vwCl[ci]?).map (fun q => q.1) = some y.cls) (hcat : (st.map fun v => v.category).sum ≤ 8) (hR0 : Ry.cells = 0 ∧ Ry.slots = 0) (hR : Ry.frames + 1 ≤ R.frames ∧ 8 + (nLy + 11) + Ry.locals ≤ R.locals) (hk : k ≤ R.cells ∧ n ≤ R.slots) (hlen : ∀ v h', Qc.1 v h' → h'.length = hs.length) (kk : ∀ v h', Qc.1 v h' → Vd own nm cc nL ret R Q mc ms k n (pc + 3) L ((v.map (rv (ab_r rr))).toList ++ st) (ab_put h rr (h'.map (rc (ab_r rr))))) : Vd own nm cc nL ret R Q mc ms k n pc L stk h := by
  intro p l e s m args below meth c dC dI ac sk A ad0 n0 Qs E ad H locs ls N
  obtain ⟨f1, f2, f3, f4, f5, f6⟩ := f
  have hM := hM l dC dI ac sk (fun i => ad (ab_r rr i)) H.size
  rw [hR0.1, hR0.2] at hM
  obtain ⟨q, hq1, hq2⟩ : ∃ q, vwCl[ci]? = some q ∧ q.1 = y.cls := by
    cases hc : vwCl[ci]? with
    | none => rw [hc] at hci; cases hci
    | some q => rw [hc] at hci; exact ⟨q, rfl, Option.some.inj hci⟩
  have hg : GoodIn gw (wsV own idx y.cls y (Cond.code y cy nLy rety :: gw)) := fun w hw => by
    rcases List.mem_append.mp hw with hw | hw
    · simp only [List.mem_cons, List.not_mem_nil, or_false] at hw
      rcases hw with rfl | rfl | rfl | rfl
      · exact gw_all _ f1
      · exact gw_all _ f2
      · exact gw_all _ f3
      · exact gw_all _ f4
    · exact gw_code f5 w hw
  have hpre := Mt.pre E N rr hr hnd ha
  subst hstk
  refine ab_cont E N rr hr hnd (va_runV (As := As.map (xv ad sk)) (rest := st.map (xv ad sk)) (b := ad b) ⟨E.1.1, E.1.2.1, E.1.2.2.2.1, E.1.2.2.2.2.1, E.1.2.2.2.2.2.1⟩ hM (cwV np E.1.2.2.2.2.2.1 hg rfl hR0.1 hR0.2 ⟨rfl, f6.1, f6.2.1, f6.2.2⟩ hR) ⟨Mt.blind, ?_, hpre⟩ rfl (by rw [List.length_map]; exact hnp) N.2.2.2.2.1 (by show List.map _ _ = _; simp [xv]) (lv_room (by rw [xv_cats]; exact hcat)) hd ⟨hk.1, hk.2⟩) hlen kk
  rw [← hq2]
  exact va_recv E.2.2.2.1 N.2.1 hq1 (xw_of hb)
set_option maxHeartbeats 4000000 in
theorem v_invS {idx np : Nat} {As : List Value} {stk : List Value} (rr : List Nat) (hd : decode cc pc = .ok (.invokestatic idx, 3)) (f : MS own idx y cy nLy rety np) (hM : Mt y cy nLy rety Ry as hs Qc) (hr : rr.map (fun j => h[j]?) = hs.map (fun c => some (rc (ab_r rr) c))) (hnd : va_nd rr = true) (ha : as.map (rv (ab_r rr)) = As) (hstk : stk = As.reverse ++ st) (hnp : As.length = np) (hcat : (st.map fun v => v.category).sum ≤ 8) (hR0 : Ry.cells = 0 ∧ Ry.slots = 0) (hR : Ry.frames + 1 ≤ R.frames ∧ 8 + (nLy + 11) + Ry.locals ≤ R.locals) (hk : k ≤ R.cells ∧ n ≤ R.slots) (hlen : ∀ v h', Qc.1 v h' → h'.length = hs.length) (kk : ∀ v h', Qc.1 v h' → Vd own nm cc nL ret R Q mc ms k n (pc + 3) L ((v.map (rv (ab_r rr))).toList ++ st) (ab_put h rr (h'.map (rc (ab_r rr))))) : Vd own nm cc nL ret R Q mc ms k n pc L stk h := by
  intro p l e s m args below meth c dC dI ac sk A ad0 n0 Qs E ad H locs ls N
  obtain ⟨f1, f2, f4, f5, f6⟩ := f
  have hM := hM l dC dI ac sk (fun i => ad (ab_r rr i)) H.size
  rw [hR0.1, hR0.2] at hM
  have hg : GoodIn gw (va_wsS own idx y (Cond.code y cy nLy rety :: gw)) := fun w hw => by
    rcases List.mem_append.mp hw with hw | hw
    · simp only [List.mem_cons, List.not_mem_nil, or_false] at hw
      rcases hw with rfl | rfl | rfl
      · exact gw_all _ f1
      · exact gw_all _ f2
      · exact gw_all _ f4
    · exact gw_code f5 w hw
  have hpre := Mt.pre E N rr hr hnd ha
  subst hstk
  exact ab_cont E N rr hr hnd (va_runS (As := As.map (xv ad sk)) (rest := st.map (xv ad sk)) ⟨E.1.1, E.1.2.1, E.1.2.2.2.1, E.1.2.2.2.2.1, E.1.2.2.2.2.2.1⟩ hM (va_cwS np E.1.2.2.2.2.2.1 hg rfl hR0.1 hR0.2 f6 hR) ⟨Mt.blind, hpre⟩ rfl (by rw [List.length_map]; exact hnp) N.2.2.2.2.1 (by show List.map _ _ = _; simp) (lv_room (by rw [xv_cats]; exact hcat)) hd ⟨hk.1, hk.2⟩) hlen kk
set_option maxHeartbeats 4000000 in
theorem v_invN {idx np : Nat} {host : String} {As : List Value} {stk : List Value} (rr : List Nat) (hd : decode cc pc = .ok (.invokestatic idx, 3)) (f : MN own idx y host cy nLy rety np) (hM : Mt y cy nLy rety Ry as hs Qc) (hr : rr.map (fun j => h[j]?) = hs.map (fun c => some (rc (ab_r rr) c))) (hnd : va_nd rr = true) (ha : as.map (rv (ab_r rr)) = As) (hstk : stk = As.reverse ++ st) (hnp : As.length = np) (hcat : (st.map fun v => v.category).sum ≤ 8) (hR0 : Ry.cells = 0 ∧ Ry.slots = 0) (hR : Ry.frames + 1 ≤ R.frames ∧ 8 + (nLy + 11) + Ry.locals ≤ R.locals) (hk : k ≤ R.cells ∧ n ≤ R.slots) (hlen : ∀ v h', Qc.1 v h' → h'.length = hs.length) (kk : ∀ v h', Qc.1 v h' → Vd own nm cc nL ret R Q mc ms k n (pc + 3) L ((v.map (rv (ab_r rr))).toList ++ st) (ab_put h rr (h'.map (rc (ab_r rr))))) : Vd own nm cc nL ret R Q mc ms k n pc L stk h := by
  intro p l e s m args below meth c dC dI ac sk A ad0 n0 Qs E ad H locs ls N
  obtain ⟨f1, f2, f4, f5, f6⟩ := f
  have hM := hM l dC dI ac sk (fun i => ad (ab_r rr i)) H.size
  rw [hR0.1, hR0.2] at hM
  have hpre := Mt.pre E N rr hr hnd ha
  subst hstk
  exact ab_cont E N rr hr hnd (va_runSN (As := As.map (xv ad sk)) (rest := st.map (xv ad sk)) (host := host) ⟨E.1.1, E.1.2.1, E.1.2.2.2.1, E.1.2.2.2.2.1, E.1.2.2.2.2.2.1⟩ hM ⟨va_cnB np E.1.2.2.2.2.2.1 (gw_code f5) rfl hR0.1 hR0.2 (E.2.2.1.1 _ f1 rfl) (E.1.2.2.2.2.2.1 _ f4) f6 hR, E.1.2.2.2.2.2.1 _ f2, trivial⟩ ⟨Mt.blind, hpre⟩ rfl (by rw [List.length_map]; exact hnp) N.2.2.2.2.1 (by show List.map _ _ = _; simp) (lv_room (by rw [xv_cats]; exact hcat)) hd ⟨hk.1, hk.2⟩) hlen kk
end VCALL
