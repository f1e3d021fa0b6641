
/-! THE ABSTRACT HEAP: cells by their places; a method's walk in words of it -/
def gw : List Cond := lw_tbl.filter goodWord
theorem gw_in {w : Cond} (h : w ∈ lw_tbl) (g : goodWord w = true) : w ∈ gw := List.mem_filter.mpr ⟨h, g⟩
theorem gw_good {w : Cond} (h : w ∈ gw) : GoodIn gw [w] := fun v hv => by
  rw [List.mem_singleton.mp hv]
  exact ⟨h, good_of_word (List.mem_filter.mp h).2⟩
theorem gw_all : GoodIn gw gw := fun w h => ⟨h, good_of_word (List.mem_filter.mp h).2⟩
abbrev ab_C : Type := (Nat × Nat × (Nat → Int32)) ⊕ ((Nat × List (Option Nat)) ⊕ (Nat × List Value))
abbrev ab_H : Type := List ab_C
abbrev aI (t n : Nat) (f : Nat → Int32) : ab_C := .inl (t, n, f)
abbrev aR (t : Nat) (l : List (Option Nat)) : ab_C := .inr (.inl (t, l))
abbrev aO (c : Nat) (fs : List Value) : ab_C := .inr (.inr (c, fs))
/-- an abstract value's own: a place becomes an address, a text's number its address -/
def xv (ad : Nat → Nat) (sk : Nat → Option Nat) : Value → Value
  | .ref k => .ref (ad k)
  | .retAddr i => va_rf (sk i)
  | .int x => .int x
  | .long x => .long x
  | .float x => .float x
  | .double x => .double x
  | .null => .null
def xc (ad : Nat → Nat) (sk : Nat → Option Nat) (ac : Nat → ClassId) : ab_C → va_E
  | .inl (t, n, f) => .inl (ac t, n, .inl f)
  | .inr (.inl (t, l)) => .inl (ac t, l.length, .inr (.inr (.inr (.inr (fun j => (l.getD j none).map ad)))))
  | .inr (.inr (c, fs)) => .inr (c, fs.map (xv ad sk))
def xw (ad : Nat → Nat) (sk : Nat → Option Nat) (ac : Nat → ClassId) (h : ab_H) : va_W := h.mapIdx (fun i c => (ad i, xc ad sk ac c))
theorem xw_at {ad : Nat → Nat} {sk : Nat → Option Nat} {ac : Nat → ClassId} {h : ab_H} {k : Nat} : (xw ad sk ac h)[k]? = (h[k]?).map (fun c => (ad k, xc ad sk ac c)) := by
  simp [xw, List.getElem?_mapIdx]
theorem xw_of {ad : Nat → Nat} {sk : Nat → Option Nat} {ac : Nat → ClassId} {h : ab_H} {k : Nat} {c : ab_C} (hk : h[k]? = some c) : (xw ad sk ac h)[k]? = some (ad k, xc ad sk ac c) := by
  rw [xw_at, hk]; rfl
theorem xw_set {ad : Nat → Nat} {sk : Nat → Option Nat} {ac : Nat → ClassId} {h : ab_H} {k : Nat} {c : ab_C} : (xw ad sk ac h).set k (ad k, xc ad sk ac c) = xw ad sk ac (h.set k c) := by
  apply List.ext_getElem?
  intro i
  rw [xw_at, List.getElem?_set, List.getElem?_set, xw_at]
  have hl : (xw ad sk ac h).length = h.length := by simp [xw]
  rw [hl]
  by_cases hk : k = i
  · subst hk
    simp only [if_true]
    by_cases h2 : k < h.length <;> simp [h2]
  · simp [hk]
theorem xw_push {ad : Nat → Nat} {sk : Nat → Option Nat} {ac : Nat → ClassId} {h : ab_H} {c : ab_C} : xw ad sk ac (h ++ [c]) = xw ad sk ac h ++ [(ad h.length, xc ad sk ac c)] := by
  simp [xw, List.mapIdx_append]
def ab_ty (ac : Nat → ClassId) : List (ClassId × FieldType) := [(ac 0, .int), (ac 1, .byte), (ac 2, .boolean), (ac 3, .object RX1), (ac 4, .object RX2)]
def ab_isN : Cond → Bool
  | .methodLinkNest .. => true
  | _ => false
def ab_str : List (Nat × String) := [(97, "polite"), (103, "rude"), (105, "deaf"), (107, "cook"), (109, "fire"), (111, "rain"), (113, "offer")]
def ab_len : List Nat := [6, 4, 4, 4, 4, 4, 5]
def ab_byt : List (List Int32) := [[112, 111, 108, 105, 116, 101], [114, 117, 100, 101], [100, 101, 97, 102], [99, 111, 111, 107], [102, 105, 114, 101], [114, 97, 105, 110], [111, 102, 102, 101, 114]]
def ab_fac (j : Nat) : Int32 := ([1, 1, 2, 6, 24, 120] : List Int32).getD j 0
/-- what nobody writes: links of the nest, texts, statics, array classes -/
def SX (sk : Nat → Option Nat) (A : Nat → Prop) (U : State) (H : Heap) : Prop :=
  (∀ w ∈ lw_tbl, ab_isN w = true → va_Nw w U) ∧
  (∃ adK adV : Nat → Nat, (∀ i, i < 7 → sk i = some (adK i) ∧ sk (8 + i) = some (adV i) ∧ vk_R RX5 (ab_str.getD i (0, "")).1 (ab_str.getD i (0, "")).2 (adK i) U) ∧ vk_S 7 ab_len ab_byt adK adV A U H) ∧
  va_Z "java/lang/String" "COMPACT_STRINGS" "Z" (.int 1) A U H ∧
  (∃ t : Nat, sk 7 = some t ∧ va_Z RX6 "FACTORIAL" "[I" (.ref t) A U H ∧ va_T .int t 6 (fun j => .int (ab_fac j)) A U H) ∧
  va_Z "jdk/internal/util/Preconditions" "SIOOBE_FORMATTER" "Ljava/util/function/BiFunction;" (va_rf (sk 15)) A U H ∧
  va_AO RX1 U ∧ va_AO RX2 U
theorem SX.same {sk : Nat → Option Nat} {A : Nat → Prop} {u U : State} {H : Heap} (hv : U.vm = u.vm) (h : SX sk A u H) : SX sk A U H := by
  have hal : u.vm.Alike U.vm := by rw [hv]; exact Vm.Alike.refl _
  obtain ⟨h1, ⟨adK, adV, h2, h3⟩, h4, ⟨t, h0, h5, h6⟩, h9, h7, h8⟩ := h
  refine ⟨fun w hw hn => ?_, ⟨adK, adV, fun i hi => ⟨(h2 i hi).1, (h2 i hi).2.1, vk_R.same hv (h2 i hi).2.2⟩, vk_S.moved hal h3⟩, va_Z.moved hal h4, ⟨t, h0, va_Z.moved hal h5, va_T.moved hal h6⟩, va_Z.moved hal h9, va_AO.moved hal h7, va_AO.moved hal h8⟩
  cases w <;> first | (simp [ab_isN] at hn; done) | exact va_Nw.same rfl hv.symm (h1 _ hw hn)
theorem SX.move {sk : Nat → Option Nat} {A B : Nat → Prop} {s U : State} {H : Heap} {locs : List Loc} (h : SX sk A s s.heap) (hS : va_S A s.heap H locs) (hW : s.WarmedH U.vm) (hU : U.heap = H) (hB : ∀ q, B q → A q) : SX sk B U U.heap := by
  have hal := hW.alike
  have hk : ∀ a : Nat, a < s.heap.size → ¬ A a → U.heap[a]? = s.heap[a]? := fun a h1 h2 => by rw [hU]; exact hS.2.1 a h1 h2
  obtain ⟨h1, ⟨adK, adV, h2, h3⟩, h4, ⟨t, h0, h5, h6⟩, h9, h7, h8⟩ := h
  refine ⟨fun w hw hn => ?_, ⟨adK, adV, fun i hi => ⟨(h2 i hi).1, (h2 i hi).2.1, vk_R.warm hW (h2 i hi).2.2⟩, (vk_S.moved hal (h3.kept hk)).narrow hB⟩, (va_Z.moved hal (h4.kept hk)).narrow hB, ⟨t, h0, (va_Z.moved hal (h5.kept hk)).narrow hB, (va_T.moved hal (h6.kept hk)).narrow hB⟩, (va_Z.moved hal (h9.kept hk)).narrow hB, va_AO.moved hal h7, va_AO.moved hal h8⟩
  cases w <;> first | (simp [ab_isN] at hn; done) | exact va_Nw.warmM hW (h1 _ hw hn)
def Cx (own nm : String) (cc : ByteArray) (nL : Nat) (ret : Option FieldType) (p : Program) (s : State) (m : MethodId) (args : Array Value) (meth : Method) (c : Code) : Prop :=
  p.tables.exec = Jvm.exec ∧ c.code = cc ∧ meth.sig.returnType = ret ∧ c.maxLocals = nL ∧ s.vm.findClass own = some m.cls ∧ (∀ w ∈ gw, w.before args s = true) ∧ meth.locks = false ∧ meth.name = nm
abbrev ab_Q : Type := (Option Value → ab_H → Prop) × (State → (Nat → Prop) → (Nat → Option Nat) → Prop)
def Nw (dC : Nat → ClassId) (dI : Nat → Nat → Nat) (ac : Nat → ClassId) (sk : Nat → Option Nat) (A : Nat → Prop) (ad0 : Nat → Nat) (n0 : Nat) (s : State) (nL : Nat) (L : List (Nat × Value)) (h : ab_H) (ad : Nat → Nat) (H : Heap) (locs : List Loc) (ls : Array Slot) : Prop :=
  (n0 ≤ h.length ∧ (∀ j, j < n0 → ad j = ad0 j) ∧ (h.length = n0 → ad = ad0)) ∧ va_P (dC, dI) vwCl (xw ad sk ac h) H ∧ va_D A (xw ad sk ac h) ∧ va_S A s.heap H locs ∧ lv_has ls nL (L.map (fun q => (q.1, xv ad sk q.2)))
/-- which instruction leaves with which answer -/
def ab_ret (ret : Option FieldType) (v : Option Value) (ins : Instr) : Prop :=
  (ret = none ∧ v = none ∧ ins = .return_) ∨ (∃ ty x, ret = some ty ∧ v = some (.int x) ∧ ins = .ireturn ∧ narrow ty (.int x) = .int x) ∨ (ret = some .long ∧ ∃ x, v = some (.long x) ∧ ins = .lreturn) ∨ (∃ t r, ret = some (.object t) ∧ v = some (.ref r) ∧ ins = .areturn)
def Ev (own nm : String) (cc : ByteArray) (nL : Nat) (ret : Option FieldType) (R : Room) (Q : ab_Q) (mc ms : Nat) (p : Program) (l : Launch) (e : Env) (s : State) (m : MethodId) (args : Array Value) (below : List Frame) (meth : Method) (c : Code) (dC : Nat → ClassId) (dI : Nat → Nat → Nat) (ac : Nat → ClassId) (sk : Nat → Option Nat) (A : Nat → Prop) (ad0 : Nat → Nat) (n0 : Nat) (Qs : State → Prop) : Prop :=
  Cx own nm cc nL ret p s m args meth c ∧ (∀ q, s.heap.size ≤ q → A q) ∧ SX sk A s s.heap ∧ va_K (dC, dI) vwCl (ab_ty ac) s ∧
  (∀ (ad : Nat → Nat) (H : Heap) (locs : List Loc) (ls : Array Slot) (v : Option Value) (ins : Instr) (h : ab_H) (pcr : Nat), Q.1 v h → ab_ret ret v ins → decode cc pcr = .ok (ins, 1) → Nw dC dI ac sk A ad0 n0 s nL [] h ad H locs ls → W p l e R s m args below meth c H locs mc ms Qs (F0 m pcr ls (v.toList.map (xv ad sk)))) ∧ Q.2 s A sk
def Vd (own nm : String) (cc : ByteArray) (nL : Nat) (ret : Option FieldType) (R : Room) (Q : ab_Q) (mc ms k n pc : Nat) (L : List (Nat × Value)) (st : List Value) (h : ab_H) : Prop :=
  ∀ (p : Program) (l : Launch) (e : Env) (s : State) (m : MethodId) (args : Array Value) (below : List Frame) (meth : Method) (c : Code) (dC : Nat → ClassId) (dI : Nat → Nat → Nat) (ac : Nat → ClassId) (sk : Nat → Option Nat) (A : Nat → Prop) (ad0 : Nat → Nat) (n0 : Nat) (Qs : State → Prop),
    Ev own nm cc nL ret R Q mc ms p l e s m args below meth c dC dI ac sk A ad0 n0 Qs → ∀ (ad : Nat → Nat) (H : Heap) (locs : List Loc) (ls : Array Slot), Nw dC dI ac sk A ad0 n0 s nL L h ad H locs ls → W p l e R s m args below meth c H locs k n Qs (F0 m pc ls (st.map (xv ad sk)))
theorem xv_cat (ad : Nat → Nat) (sk : Nat → Option Nat) (v : Value) : (xv ad sk v).category = v.category := by
  cases v with
  | retAddr i => show (va_rf (sk i)).category = 1; cases sk i <;> rfl
  | _ => rfl
theorem xv_cats (ad : Nat → Nat) (sk : Nat → Option Nat) (st : List Value) : ((st.map (xv ad sk)).map fun v => v.category) = st.map fun v => v.category := by
  rw [List.map_map]
  exact List.map_congr_left (fun v _ => xv_cat ad sk v)
/-- a local's value -/
def ab_lk (L : List (Nat × Value)) (i : Nat) : Option Value := (L.find? (fun q => q.1 == i)).map (fun q => q.2)
theorem ab_lk_in {L : List (Nat × Value)} {i : Nat} {v : Value} (h : ab_lk L i = some v) : (i, v) ∈ L := by
  unfold ab_lk at h
  cases hf : L.find? (fun q => q.1 == i) with
  | none => rw [hf] at h; cases h
  | some q =>
    rw [hf] at h
    have h1 := List.mem_of_find?_eq_some hf
    have h2 := List.find?_some hf
    have e1 : q.1 = i := by simpa using h2
    have e2 : q.2 = v := Option.some.inj h
    rw [← e1, ← e2]
    exact h1
theorem ab_lk_at {L : List (Nat × Value)} {i : Nat} {v : Value} {ad : Nat → Nat} {sk : Nat → Option Nat} {ls : Array Slot} {nL : Nat} (h : ab_lk L i = some v) (hl : lv_has ls nL (L.map (fun q => (q.1, xv ad sk q.2)))) : ls[i]? = some (.val (xv ad sk v)) :=
  hl.2.2 (i, xv ad sk v) (List.mem_map.mpr ⟨(i, v), ab_lk_in h, rfl⟩)
/-- storing a value of one word, of two -/
def ab_s1 (L : List (Nat × Value)) (i : Nat) (v : Value) : List (Nat × Value) := (i, v) :: L.filter (fun q => !(q.1 == i) && !(q.1 + 1 == i && q.2.category == 2))
def ab_s2 (L : List (Nat × Value)) (i : Nat) (v : Value) : List (Nat × Value) := (i, v) :: L.filter (fun q => !(q.1 == i) && (!(q.1 == i + 1) && !(q.1 + 1 == i && q.2.category == 2)))
theorem ab_s1_map {L : List (Nat × Value)} {i : Nat} {v : Value} {ad : Nat → Nat} {sk : Nat → Option Nat} : (i, xv ad sk v) :: (L.map (fun q => (q.1, xv ad sk q.2))).filter (fun q => !(q.1 == i) && !(q.1 + 1 == i && q.2.category == 2)) = (ab_s1 L i v).map (fun q => (q.1, xv ad sk q.2)) := by
  simp only [ab_s1, List.map_cons, List.filter_map]
  congr 2
  apply List.filter_congr
  intro q _
  simp [xv_cat]
theorem ab_s2_map {L : List (Nat × Value)} {i : Nat} {v : Value} {ad : Nat → Nat} {sk : Nat → Option Nat} : (i, xv ad sk v) :: (L.map (fun q => (q.1, xv ad sk q.2))).filter (fun q => !(q.1 == i) && (!(q.1 == i + 1) && !(q.1 + 1 == i && q.2.category == 2))) = (ab_s2 L i v).map (fun q => (q.1, xv ad sk q.2)) := by
  simp only [ab_s2, List.map_cons, List.filter_map]
  congr 2
  apply List.filter_congr
  intro q _
  simp [xv_cat]
theorem Nw.loc {dC : Nat → ClassId} {dI : Nat → Nat → Nat} {ac : Nat → ClassId} {sk : Nat → Option Nat} {A : Nat → Prop} {ad0 : Nat → Nat} {n0 : Nat} {s : State} {nL : Nat} {L L' : List (Nat × Value)} {h : ab_H} {ad : Nat → Nat} {H : Heap} {locs : List Loc} {ls : Array Slot} (N : Nw dC dI ac sk A ad0 n0 s nL L h ad H locs ls) (hs : ∀ q ∈ L', q ∈ L) : Nw dC dI ac sk A ad0 n0 s nL L' h ad H locs ls := by
  obtain ⟨h1, h2, h3, h4, h5, h6, h7⟩ := N
  refine ⟨h1, h2, h3, h4, h5, h6, fun q hq => ?_⟩
  obtain ⟨r, hr, e⟩ := List.mem_map.mp hq
  exact h7 q (List.mem_map.mpr ⟨r, hs r hr, e⟩)

section VROWS
variable {own nm : String} {cc : ByteArray} {nL : Nat} {ret : Option FieldType} {R : Room} {Q : ab_Q} {mc ms k n pc : Nat} {L : List (Nat × Value)} {st : List Value} {h : ab_H}
theorem v_iconst {z : Int} {v : Int32} (hd : decode cc pc = .ok (.iconst z, 1)) (hv : Int32.ofInt z = v) (kk : Vd own nm cc nL ret R Q mc ms k n (pc + 1) L (.int v :: st) h) : Vd own nm cc nL ret R Q mc ms k n pc L (st) h := by
  intro p l e s m args below meth c dC dI ac sk A ad0 n0 Qs E ad H locs ls N
  exact lv_iconst E.1.1 E.1.2.1 hd hv (kk p l e s m args below meth c dC dI ac sk A ad0 n0 Qs E ad H locs ls N)
theorem v_bipush {z : Int} {v : Int32} (hd : decode cc pc = .ok (.bipush z, 2)) (hv : (Int8.ofInt z).toInt32 = v) (kk : Vd own nm cc nL ret R Q mc ms k n (pc + 2) L (.int v :: st) h) : Vd own nm cc nL ret R Q mc ms k n pc L (st) h := by
  intro p l e s m args below meth c dC dI ac sk A ad0 n0 Qs E ad H locs ls N
  exact lv_bipush E.1.1 E.1.2.1 hd hv (kk p l e s m args below meth c dC dI ac sk A ad0 n0 Qs E ad H locs ls N)
theorem v_sipush {z : Int} {v : Int32} (hd : decode cc pc = .ok (.sipush z, 3)) (hv : (Int16.ofInt z).toInt32 = v) (kk : Vd own nm cc nL ret R Q mc ms k n (pc + 3) L (.int v :: st) h) : Vd own nm cc nL ret R Q mc ms k n pc L (st) h := by
  intro p l e s m args below meth c dC dI ac sk A ad0 n0 Qs E ad H locs ls N
  exact lv_sipush E.1.1 E.1.2.1 hd hv (kk p l e s m args below meth c dC dI ac sk A ad0 n0 Qs E ad H locs ls N)
theorem v_lconst {z : Fin 2} {v : Int64} (hd : decode cc pc = .ok (.lconst z, 1)) (hv : Int64.ofNat (z : Nat) = v) (kk : Vd own nm cc nL ret R Q mc ms k n (pc + 1) L (.long v :: st) h) : Vd own nm cc nL ret R Q mc ms k n pc L (st) h := by
  intro p l e s m args below meth c dC dI ac sk A ad0 n0 Qs E ad H locs ls N
  exact lv_lconst E.1.1 E.1.2.1 hd hv (kk p l e s m args below meth c dC dI ac sk A ad0 n0 Qs E ad H locs ls N)
theorem v_iload_n {j : Fin 4} {x : Int32} (hd : decode cc pc = .ok (.iload_n j, 1)) (hl : ab_lk L j = some (.int x)) (kk : Vd own nm cc nL ret R Q mc ms k n (pc + 1) L (.int x :: st) h) : Vd own nm cc nL ret R Q mc ms k n pc L (st) h := by
  intro p l e s m args below meth c dC dI ac sk A ad0 n0 Qs E ad H locs ls N
  exact lv_iload_n E.1.1 E.1.2.1 hd rfl (ab_lk_at hl N.2.2.2.2) (kk p l e s m args below meth c dC dI ac sk A ad0 n0 Qs E ad H locs ls N)
theorem v_iload {i : Nat} {x : Int32} (hd : decode cc pc = .ok (.iload i, 2)) (hl : ab_lk L i = some (.int x)) (kk : Vd own nm cc nL ret R Q mc ms k n (pc + 2) L (.int x :: st) h) : Vd own nm cc nL ret R Q mc ms k n pc L (st) h := by
  intro p l e s m args below meth c dC dI ac sk A ad0 n0 Qs E ad H locs ls N
  exact lv_iload E.1.1 E.1.2.1 hd (ab_lk_at hl N.2.2.2.2) (kk p l e s m args below meth c dC dI ac sk A ad0 n0 Qs E ad H locs ls N)
theorem v_lload_n {j : Fin 4} {x : Int64} (hd : decode cc pc = .ok (.lload_n j, 1)) (hl : ab_lk L j = some (.long x)) (kk : Vd own nm cc nL ret R Q mc ms k n (pc + 1) L (.long x :: st) h) : Vd own nm cc nL ret R Q mc ms k n pc L (st) h := by
  intro p l e s m args below meth c dC dI ac sk A ad0 n0 Qs E ad H locs ls N
  exact lv_lload_n E.1.1 E.1.2.1 hd rfl (ab_lk_at hl N.2.2.2.2) (kk p l e s m args below meth c dC dI ac sk A ad0 n0 Qs E ad H locs ls N)
theorem v_lload {i : Nat} {x : Int64} (hd : decode cc pc = .ok (.lload i, 2)) (hl : ab_lk L i = some (.long x)) (kk : Vd own nm cc nL ret R Q mc ms k n (pc + 2) L (.long x :: st) h) : Vd own nm cc nL ret R Q mc ms k n pc L (st) h := by
  intro p l e s m args below meth c dC dI ac sk A ad0 n0 Qs E ad H locs ls N
  exact lv_lload E.1.1 E.1.2.1 hd (ab_lk_at hl N.2.2.2.2) (kk p l e s m args below meth c dC dI ac sk A ad0 n0 Qs E ad H locs ls N)
theorem v_aload_n {j : Fin 4} {x : Nat} (hd : decode cc pc = .ok (.aload_n j, 1)) (hl : ab_lk L j = some (.ref x)) (kk : Vd own nm cc nL ret R Q mc ms k n (pc + 1) L (.ref x :: st) h) : Vd own nm cc nL ret R Q mc ms k n pc L (st) h := by
  intro p l e s m args below meth c dC dI ac sk A ad0 n0 Qs E ad H locs ls N
  exact lv_aload_n E.1.1 E.1.2.1 hd rfl (ab_lk_at hl N.2.2.2.2) (kk p l e s m args below meth c dC dI ac sk A ad0 n0 Qs E ad H locs ls N)
theorem v_aload {i : Nat} {x : Nat} (hd : decode cc pc = .ok (.aload i, 2)) (hl : ab_lk L i = some (.ref x)) (kk : Vd own nm cc nL ret R Q mc ms k n (pc + 2) L (.ref x :: st) h) : Vd own nm cc nL ret R Q mc ms k n pc L (st) h := by
  intro p l e s m args below meth c dC dI ac sk A ad0 n0 Qs E ad H locs ls N
  exact lv_aload E.1.1 E.1.2.1 hd (ab_lk_at hl N.2.2.2.2) (kk p l e s m args below meth c dC dI ac sk A ad0 n0 Qs E ad H locs ls N)
theorem v_sload_n {j : Fin 4} {x : Nat} (hd : decode cc pc = .ok (.aload_n j, 1)) (hl : ab_lk L j = some (.retAddr x)) (hx : x < 7 ∨ (8 ≤ x ∧ x < 15)) (kk : Vd own nm cc nL ret R Q mc ms k n (pc + 1) L (.retAddr x :: st) h) : Vd own nm cc nL ret R Q mc ms k n pc L st h := by
  intro p l e s m args below meth c dC dI ac sk A ad0 n0 Qs E ad H locs ls N
  obtain ⟨a, ha⟩ : ∃ a, sk x = some a := by
    obtain ⟨-, ⟨adK, adV, h2, -⟩, -⟩ := E.2.2.1
    rcases hx with hx | hx
    · exact ⟨_, (h2 x hx).1⟩
    · have := (h2 (x - 8) (by omega)).2.1
      rw [show 8 + (x - 8) = x by omega] at this
      exact ⟨_, this⟩
  have h1 := ab_lk_at hl N.2.2.2.2
  have e1 : xv ad sk (.retAddr x) = .ref a := by show va_rf (sk x) = _; rw [ha]; rfl
  rw [e1] at h1
  have k2 := (kk p l e s m args below meth c dC dI ac sk A ad0 n0 Qs E ad H locs ls N)
  rw [List.map_cons, e1] at k2
  exact lv_aload_n E.1.1 E.1.2.1 hd rfl h1 k2
theorem v_istore_n {j : Fin 4} {i : Nat} {x : Int32} {L2 : List (Nat × Value)} (hd : decode cc pc = .ok (.istore_n j, 1)) (hi : (j : Nat) = i) (hn : i < nL) (hl : ab_s1 L i (.int x) = L2) (kk : Vd own nm cc nL ret R Q mc ms k n (pc + 1) L2 st h) : Vd own nm cc nL ret R Q mc ms k n pc L (.int x :: st) h := by
  intro p l e s m args below meth c dC dI ac sk A ad0 n0 Qs E ad H locs ls N
  exact lv_istore_n E.1.1 E.1.2.1 hd hi N.2.2.2.2 hn (ab_s1_map (v := .int x) (ad := ad) (sk := sk)) (fun ls2 hl2 => kk p l e s m args below meth c dC dI ac sk A ad0 n0 Qs E ad H locs ls2 ⟨N.1, N.2.1, N.2.2.1, N.2.2.2.1, hl ▸ hl2⟩)
theorem v_istore {i : Nat} {x : Int32} {L2 : List (Nat × Value)} (hd : decode cc pc = .ok (.istore i, 2)) (hn : i < nL) (hl : ab_s1 L i (.int x) = L2) (kk : Vd own nm cc nL ret R Q mc ms k n (pc + 2) L2 st h) : Vd own nm cc nL ret R Q mc ms k n pc L (.int x :: st) h := by
  intro p l e s m args below meth c dC dI ac sk A ad0 n0 Qs E ad H locs ls N
  exact lv_istore E.1.1 E.1.2.1 hd N.2.2.2.2 hn (ab_s1_map (v := .int x) (ad := ad) (sk := sk)) (fun ls2 hl2 => kk p l e s m args below meth c dC dI ac sk A ad0 n0 Qs E ad H locs ls2 ⟨N.1, N.2.1, N.2.2.1, N.2.2.2.1, hl ▸ hl2⟩)
theorem v_lstore_n {j : Fin 4} {i : Nat} {x : Int64} {L2 : List (Nat × Value)} (hd : decode cc pc = .ok (.lstore_n j, 1)) (hi : (j : Nat) = i) (hn : i + 1 < nL) (hl : ab_s2 L i (.long x) = L2) (kk : Vd own nm cc nL ret R Q mc ms k n (pc + 1) L2 st h) : Vd own nm cc nL ret R Q mc ms k n pc L (.long x :: st) h := by
  intro p l e s m args below meth c dC dI ac sk A ad0 n0 Qs E ad H locs ls N
  exact lv_lstore_n E.1.1 E.1.2.1 hd hi N.2.2.2.2 hn (ab_s2_map (v := .long x) (ad := ad) (sk := sk)) (fun ls2 hl2 => kk p l e s m args below meth c dC dI ac sk A ad0 n0 Qs E ad H locs ls2 ⟨N.1, N.2.1, N.2.2.1, N.2.2.2.1, hl ▸ hl2⟩)
theorem v_lstore {i : Nat} {x : Int64} {L2 : List (Nat × Value)} (hd : decode cc pc = .ok (.lstore i, 2)) (hn : i + 1 < nL) (hl : ab_s2 L i (.long x) = L2) (kk : Vd own nm cc nL ret R Q mc ms k n (pc + 2) L2 st h) : Vd own nm cc nL ret R Q mc ms k n pc L (.long x :: st) h := by
  intro p l e s m args below meth c dC dI ac sk A ad0 n0 Qs E ad H locs ls N
  exact lv_lstore E.1.1 E.1.2.1 hd N.2.2.2.2 hn (ab_s2_map (v := .long x) (ad := ad) (sk := sk)) (fun ls2 hl2 => kk p l e s m args below meth c dC dI ac sk A ad0 n0 Qs E ad H locs ls2 ⟨N.1, N.2.1, N.2.2.1, N.2.2.2.1, hl ▸ hl2⟩)
theorem v_astore_n {j : Fin 4} {i : Nat} {x : Nat} {L2 : List (Nat × Value)} (hd : decode cc pc = .ok (.astore_n j, 1)) (hi : (j : Nat) = i) (hn : i < nL) (hl : ab_s1 L i (.ref x) = L2) (kk : Vd own nm cc nL ret R Q mc ms k n (pc + 1) L2 st h) : Vd own nm cc nL ret R Q mc ms k n pc L (.ref x :: st) h := by
  intro p l e s m args below meth c dC dI ac sk A ad0 n0 Qs E ad H locs ls N
  exact lv_astore_n E.1.1 E.1.2.1 hd hi N.2.2.2.2 hn (ab_s1_map (v := .ref x) (ad := ad) (sk := sk)) (fun ls2 hl2 => kk p l e s m args below meth c dC dI ac sk A ad0 n0 Qs E ad H locs ls2 ⟨N.1, N.2.1, N.2.2.1, N.2.2.2.1, hl ▸ hl2⟩)
theorem v_astore {i : Nat} {x : Nat} {L2 : List (Nat × Value)} (hd : decode cc pc = .ok (.astore i, 2)) (hn : i < nL) (hl : ab_s1 L i (.ref x) = L2) (kk : Vd own nm cc nL ret R Q mc ms k n (pc + 2) L2 st h) : Vd own nm cc nL ret R Q mc ms k n pc L (.ref x :: st) h := by
  intro p l e s m args below meth c dC dI ac sk A ad0 n0 Qs E ad H locs ls N
  exact lv_astore E.1.1 E.1.2.1 hd N.2.2.2.2 hn (ab_s1_map (v := .ref x) (ad := ad) (sk := sk)) (fun ls2 hl2 => kk p l e s m args below meth c dC dI ac sk A ad0 n0 Qs E ad H locs ls2 ⟨N.1, N.2.1, N.2.2.1, N.2.2.2.1, hl ▸ hl2⟩)
theorem v_iinc {i : Nat} {z : Int} {x v : Int32} {L2 : List (Nat × Value)} (hd : decode cc pc = .ok (.iinc i z, 3)) (hk : ab_lk L i = some (.int x)) (hv : x + Int32.ofInt z = v) (hn : i < nL) (hl : ab_s1 L i (.int v) = L2) (kk : Vd own nm cc nL ret R Q mc ms k n (pc + 3) L2 st h) : Vd own nm cc nL ret R Q mc ms k n pc L st h := by
  intro p l e s m args below meth c dC dI ac sk A ad0 n0 Qs E ad H locs ls N
  obtain ⟨j, hj⟩ := List.getElem?_of_mem (List.mem_map.mpr ⟨(i, .int x), ab_lk_in hk, rfl⟩ : (i, xv ad sk (.int x)) ∈ L.map (fun q => (q.1, xv ad sk q.2)))
  exact lv_iinc (k := j) E.1.1 E.1.2.1 hd N.2.2.2.2 hj hv hn (ab_s1_map (v := .int v) (ad := ad) (sk := sk)) (fun ls2 hl2 => kk p l e s m args below meth c dC dI ac sk A ad0 n0 Qs E ad H locs ls2 ⟨N.1, N.2.1, N.2.2.1, N.2.2.2.1, hl ▸ hl2⟩)
theorem v_iadd {x y : Int32} (hd : decode cc pc = .ok (.iadd, 1)) (kk : Vd own nm cc nL ret R Q mc ms k n (pc + 1) L (.int (x + y) :: st) h) : Vd own nm cc nL ret R Q mc ms k n pc L (.int y :: .int x :: st) h := by
  intro p l e s m args below meth c dC dI ac sk A ad0 n0 Qs E ad H locs ls N
  exact lv_iadd E.1.1 E.1.2.1 hd (kk p l e s m args below meth c dC dI ac sk A ad0 n0 Qs E ad H locs ls N)
theorem v_isub {x y : Int32} (hd : decode cc pc = .ok (.isub, 1)) (kk : Vd own nm cc nL ret R Q mc ms k n (pc + 1) L (.int (x - y) :: st) h) : Vd own nm cc nL ret R Q mc ms k n pc L (.int y :: .int x :: st) h := by
  intro p l e s m args below meth c dC dI ac sk A ad0 n0 Qs E ad H locs ls N
  exact lv_isub E.1.1 E.1.2.1 hd (kk p l e s m args below meth c dC dI ac sk A ad0 n0 Qs E ad H locs ls N)
theorem v_imul {x y : Int32} (hd : decode cc pc = .ok (.imul, 1)) (kk : Vd own nm cc nL ret R Q mc ms k n (pc + 1) L (.int (x * y) :: st) h) : Vd own nm cc nL ret R Q mc ms k n pc L (.int y :: .int x :: st) h := by
  intro p l e s m args below meth c dC dI ac sk A ad0 n0 Qs E ad H locs ls N
  exact lv_imul E.1.1 E.1.2.1 hd (kk p l e s m args below meth c dC dI ac sk A ad0 n0 Qs E ad H locs ls N)
theorem v_iand {x y : Int32} (hd : decode cc pc = .ok (.iand, 1)) (kk : Vd own nm cc nL ret R Q mc ms k n (pc + 1) L (.int (x &&& y) :: st) h) : Vd own nm cc nL ret R Q mc ms k n pc L (.int y :: .int x :: st) h := by
  intro p l e s m args below meth c dC dI ac sk A ad0 n0 Qs E ad H locs ls N
  exact lv_iand E.1.1 E.1.2.1 hd (kk p l e s m args below meth c dC dI ac sk A ad0 n0 Qs E ad H locs ls N)
theorem v_ior {x y : Int32} (hd : decode cc pc = .ok (.ior, 1)) (kk : Vd own nm cc nL ret R Q mc ms k n (pc + 1) L (.int (x ||| y) :: st) h) : Vd own nm cc nL ret R Q mc ms k n pc L (.int y :: .int x :: st) h := by
  intro p l e s m args below meth c dC dI ac sk A ad0 n0 Qs E ad H locs ls N
  exact lv_ior E.1.1 E.1.2.1 hd (kk p l e s m args below meth c dC dI ac sk A ad0 n0 Qs E ad H locs ls N)
theorem v_ixor {x y : Int32} (hd : decode cc pc = .ok (.ixor, 1)) (kk : Vd own nm cc nL ret R Q mc ms k n (pc + 1) L (.int (x ^^^ y) :: st) h) : Vd own nm cc nL ret R Q mc ms k n pc L (.int y :: .int x :: st) h := by
  intro p l e s m args below meth c dC dI ac sk A ad0 n0 Qs E ad H locs ls N
  exact lv_ixor E.1.1 E.1.2.1 hd (kk p l e s m args below meth c dC dI ac sk A ad0 n0 Qs E ad H locs ls N)
theorem v_ishl {x y : Int32} (hd : decode cc pc = .ok (.ishl, 1)) (kk : Vd own nm cc nL ret R Q mc ms k n (pc + 1) L (.int (x <<< (y &&& 31)) :: st) h) : Vd own nm cc nL ret R Q mc ms k n pc L (.int y :: .int x :: st) h := by
  intro p l e s m args below meth c dC dI ac sk A ad0 n0 Qs E ad H locs ls N
  exact lv_ishl E.1.1 E.1.2.1 hd (kk p l e s m args below meth c dC dI ac sk A ad0 n0 Qs E ad H locs ls N)
theorem v_ishr {x y : Int32} (hd : decode cc pc = .ok (.ishr, 1)) (kk : Vd own nm cc nL ret R Q mc ms k n (pc + 1) L (.int (x >>> (y &&& 31)) :: st) h) : Vd own nm cc nL ret R Q mc ms k n pc L (.int y :: .int x :: st) h := by
  intro p l e s m args below meth c dC dI ac sk A ad0 n0 Qs E ad H locs ls N
  exact lv_ishr E.1.1 E.1.2.1 hd (kk p l e s m args below meth c dC dI ac sk A ad0 n0 Qs E ad H locs ls N)
theorem v_idiv {x y : Int32} (hd : decode cc pc = .ok (.idiv, 1)) (hne : ¬ y = 0) (kk : Vd own nm cc nL ret R Q mc ms k n (pc + 1) L (.int (x / y) :: st) h) : Vd own nm cc nL ret R Q mc ms k n pc L (.int y :: .int x :: st) h := by
  intro p l e s m args below meth c dC dI ac sk A ad0 n0 Qs E ad H locs ls N
  exact lv_idiv E.1.1 E.1.2.1 hd hne (kk p l e s m args below meth c dC dI ac sk A ad0 n0 Qs E ad H locs ls N)
theorem v_irem {x y : Int32} (hd : decode cc pc = .ok (.irem, 1)) (hne : ¬ y = 0) (kk : Vd own nm cc nL ret R Q mc ms k n (pc + 1) L (.int (x - x / y * y) :: st) h) : Vd own nm cc nL ret R Q mc ms k n pc L (.int y :: .int x :: st) h := by
  intro p l e s m args below meth c dC dI ac sk A ad0 n0 Qs E ad H locs ls N
  exact lv_irem E.1.1 E.1.2.1 hd hne (kk p l e s m args below meth c dC dI ac sk A ad0 n0 Qs E ad H locs ls N)
theorem v_ladd {x y : Int64} (hd : decode cc pc = .ok (.ladd, 1)) (kk : Vd own nm cc nL ret R Q mc ms k n (pc + 1) L (.long (x + y) :: st) h) : Vd own nm cc nL ret R Q mc ms k n pc L (.long y :: .long x :: st) h := by
  intro p l e s m args below meth c dC dI ac sk A ad0 n0 Qs E ad H locs ls N
  exact lv_ladd E.1.1 E.1.2.1 hd (kk p l e s m args below meth c dC dI ac sk A ad0 n0 Qs E ad H locs ls N)
theorem v_lsub {x y : Int64} (hd : decode cc pc = .ok (.lsub, 1)) (kk : Vd own nm cc nL ret R Q mc ms k n (pc + 1) L (.long (x - y) :: st) h) : Vd own nm cc nL ret R Q mc ms k n pc L (.long y :: .long x :: st) h := by
  intro p l e s m args below meth c dC dI ac sk A ad0 n0 Qs E ad H locs ls N
  exact lv_lsub E.1.1 E.1.2.1 hd (kk p l e s m args below meth c dC dI ac sk A ad0 n0 Qs E ad H locs ls N)
theorem v_lmul {x y : Int64} (hd : decode cc pc = .ok (.lmul, 1)) (kk : Vd own nm cc nL ret R Q mc ms k n (pc + 1) L (.long (x * y) :: st) h) : Vd own nm cc nL ret R Q mc ms k n pc L (.long y :: .long x :: st) h := by
  intro p l e s m args below meth c dC dI ac sk A ad0 n0 Qs E ad H locs ls N
  exact lv_lmul E.1.1 E.1.2.1 hd (kk p l e s m args below meth c dC dI ac sk A ad0 n0 Qs E ad H locs ls N)
theorem v_ldiv {x y : Int64} (hd : decode cc pc = .ok (.ldiv, 1)) (hne : ¬ y = 0) (kk : Vd own nm cc nL ret R Q mc ms k n (pc + 1) L (.long (x / y) :: st) h) : Vd own nm cc nL ret R Q mc ms k n pc L (.long y :: .long x :: st) h := by
  intro p l e s m args below meth c dC dI ac sk A ad0 n0 Qs E ad H locs ls N
  exact lv_ldiv E.1.1 E.1.2.1 hd hne (kk p l e s m args below meth c dC dI ac sk A ad0 n0 Qs E ad H locs ls N)
theorem v_lrem {x y : Int64} (hd : decode cc pc = .ok (.lrem, 1)) (hne : ¬ y = 0) (kk : Vd own nm cc nL ret R Q mc ms k n (pc + 1) L (.long (x - x / y * y) :: st) h) : Vd own nm cc nL ret R Q mc ms k n pc L (.long y :: .long x :: st) h := by
  intro p l e s m args below meth c dC dI ac sk A ad0 n0 Qs E ad H locs ls N
  exact lv_lrem E.1.1 E.1.2.1 hd hne (kk p l e s m args below meth c dC dI ac sk A ad0 n0 Qs E ad H locs ls N)
theorem v_lneg {x : Int64} (hd : decode cc pc = .ok (.lneg, 1)) (kk : Vd own nm cc nL ret R Q mc ms k n (pc + 1) L (.long (-x) :: st) h) : Vd own nm cc nL ret R Q mc ms k n pc L (.long x :: st) h := by
  intro p l e s m args below meth c dC dI ac sk A ad0 n0 Qs E ad H locs ls N
  exact lv_lneg E.1.1 E.1.2.1 hd (kk p l e s m args below meth c dC dI ac sk A ad0 n0 Qs E ad H locs ls N)
theorem v_ineg {x : Int32} (hd : decode cc pc = .ok (.ineg, 1)) (kk : Vd own nm cc nL ret R Q mc ms k n (pc + 1) L (.int (-x) :: st) h) : Vd own nm cc nL ret R Q mc ms k n pc L (.int x :: st) h := by
  intro p l e s m args below meth c dC dI ac sk A ad0 n0 Qs E ad H locs ls N
  exact lv_ineg E.1.1 E.1.2.1 hd (kk p l e s m args below meth c dC dI ac sk A ad0 n0 Qs E ad H locs ls N)
theorem v_lcmp {x y : Int64} (hd : decode cc pc = .ok (.lcmp, 1)) (kk : Vd own nm cc nL ret R Q mc ms k n (pc + 1) L (.int (lg_cmp x y) :: st) h) : Vd own nm cc nL ret R Q mc ms k n pc L (.long y :: .long x :: st) h := by
  intro p l e s m args below meth c dC dI ac sk A ad0 n0 Qs E ad H locs ls N
  exact W.lcmp E.1.1 E.1.2.1 hd (kk p l e s m args below meth c dC dI ac sk A ad0 n0 Qs E ad H locs ls N)
theorem v_i2l {x : Int32} (hd : decode cc pc = .ok (.i2l, 1)) (kk : Vd own nm cc nL ret R Q mc ms k n (pc + 1) L (.long x.toInt64 :: st) h) : Vd own nm cc nL ret R Q mc ms k n pc L (.int x :: st) h := by
  intro p l e s m args below meth c dC dI ac sk A ad0 n0 Qs E ad H locs ls N
  exact lv_i2l E.1.1 E.1.2.1 hd rfl (kk p l e s m args below meth c dC dI ac sk A ad0 n0 Qs E ad H locs ls N)
theorem v_i2b {x : Int32} (hd : decode cc pc = .ok (.i2b, 1)) (kk : Vd own nm cc nL ret R Q mc ms k n (pc + 1) L (.int x.toInt8.toInt32 :: st) h) : Vd own nm cc nL ret R Q mc ms k n pc L (.int x :: st) h := by
  intro p l e s m args below meth c dC dI ac sk A ad0 n0 Qs E ad H locs ls N
  exact lv_i2b E.1.1 E.1.2.1 hd rfl (kk p l e s m args below meth c dC dI ac sk A ad0 n0 Qs E ad H locs ls N)
theorem v_i2s {x : Int32} (hd : decode cc pc = .ok (.i2s, 1)) (kk : Vd own nm cc nL ret R Q mc ms k n (pc + 1) L (.int x.toInt16.toInt32 :: st) h) : Vd own nm cc nL ret R Q mc ms k n pc L (.int x :: st) h := by
  intro p l e s m args below meth c dC dI ac sk A ad0 n0 Qs E ad H locs ls N
  exact lv_i2s E.1.1 E.1.2.1 hd rfl (kk p l e s m args below meth c dC dI ac sk A ad0 n0 Qs E ad H locs ls N)
theorem v_iushr {x y : Int32} (hd : decode cc pc = .ok (.iushr, 1)) (kk : Vd own nm cc nL ret R Q mc ms k n (pc + 1) L (.int (x.toUInt32 >>> (y.toUInt32 &&& Int32.toUInt32 31)).toInt32 :: st) h) : Vd own nm cc nL ret R Q mc ms k n pc L (.int y :: .int x :: st) h := by
  intro p l e s m args below meth c dC dI ac sk A ad0 n0 Qs E ad H locs ls N
  exact lv_iushr E.1.1 E.1.2.1 hd rfl (kk p l e s m args below meth c dC dI ac sk A ad0 n0 Qs E ad H locs ls N)
theorem v_dup {v : Value} (hd : decode cc pc = .ok (.dup, 1)) (hc : v.category = 1) (kk : Vd own nm cc nL ret R Q mc ms k n (pc + 1) L (v :: v :: st) h) : Vd own nm cc nL ret R Q mc ms k n pc L (v :: st) h := by
  intro p l e s m args below meth c dC dI ac sk A ad0 n0 Qs E ad H locs ls N
  exact lv_dup E.1.1 E.1.2.1 hd ((xv_cat ad sk v).trans hc) (kk p l e s m args below meth c dC dI ac sk A ad0 n0 Qs E ad H locs ls N)
theorem v_pop {v : Value} (hd : decode cc pc = .ok (.pop, 1)) (hc : v.category = 1) (kk : Vd own nm cc nL ret R Q mc ms k n (pc + 1) L (st) h) : Vd own nm cc nL ret R Q mc ms k n pc L (v :: st) h := by
  intro p l e s m args below meth c dC dI ac sk A ad0 n0 Qs E ad H locs ls N
  exact lv_pop E.1.1 E.1.2.1 hd ((xv_cat ad sk v).trans hc) (kk p l e s m args below meth c dC dI ac sk A ad0 n0 Qs E ad H locs ls N)
theorem v_dup2 {v w : Value} (hd : decode cc pc = .ok (.dup2, 1)) (hc : v.category = 1) (hc2 : w.category = 1) (kk : Vd own nm cc nL ret R Q mc ms k n (pc + 1) L (v :: w :: v :: w :: st) h) : Vd own nm cc nL ret R Q mc ms k n pc L (v :: w :: st) h := by
  intro p l e s m args below meth c dC dI ac sk A ad0 n0 Qs E ad H locs ls N
  exact lv_dup2_11 E.1.1 E.1.2.1 hd ((xv_cat ad sk v).trans hc) ((xv_cat ad sk w).trans hc2) (kk p l e s m args below meth c dC dI ac sk A ad0 n0 Qs E ad H locs ls N)
theorem v_if_eq {x : Int32} {off : Int} {tgt : Nat} (hd : decode cc pc = .ok (.ifCond .eq off, 3)) (ht : (pc : Int) + off = (tgt : Int)) (kt : x = 0 → Vd own nm cc nL ret R Q mc ms k n tgt L st h) (kf : ¬ x = 0 → Vd own nm cc nL ret R Q mc ms k n (pc + 3) L st h) : Vd own nm cc nL ret R Q mc ms k n pc L (.int x :: st) h := by
  intro p l e s m args below meth c dC dI ac sk A ad0 n0 Qs E ad H locs ls N
  exact lv_if_eq E.1.1 E.1.2.1 hd ht (fun q => kt q p l e s m args below meth c dC dI ac sk A ad0 n0 Qs E ad H locs ls N) (fun q => kf q p l e s m args below meth c dC dI ac sk A ad0 n0 Qs E ad H locs ls N)
theorem v_icmp_eq {x y : Int32} {off : Int} {tgt : Nat} (hd : decode cc pc = .ok (.if_icmp .eq off, 3)) (ht : (pc : Int) + off = (tgt : Int)) (kt : x = y → Vd own nm cc nL ret R Q mc ms k n tgt L st h) (kf : ¬ x = y → Vd own nm cc nL ret R Q mc ms k n (pc + 3) L st h) : Vd own nm cc nL ret R Q mc ms k n pc L (.int y :: .int x :: st) h := by
  intro p l e s m args below meth c dC dI ac sk A ad0 n0 Qs E ad H locs ls N
  exact lv_icmp_eq E.1.1 E.1.2.1 hd ht (fun q => kt q p l e s m args below meth c dC dI ac sk A ad0 n0 Qs E ad H locs ls N) (fun q => kf q p l e s m args below meth c dC dI ac sk A ad0 n0 Qs E ad H locs ls N)
theorem v_if_ne {x : Int32} {off : Int} {tgt : Nat} (hd : decode cc pc = .ok (.ifCond .ne off, 3)) (ht : (pc : Int) + off = (tgt : Int)) (kt : ¬ x = 0 → Vd own nm cc nL ret R Q mc ms k n tgt L st h) (kf : x = 0 → Vd own nm cc nL ret R Q mc ms k n (pc + 3) L st h) : Vd own nm cc nL ret R Q mc ms k n pc L (.int x :: st) h := by
  intro p l e s m args below meth c dC dI ac sk A ad0 n0 Qs E ad H locs ls N
  exact lv_if_ne E.1.1 E.1.2.1 hd ht (fun q => kt q p l e s m args below meth c dC dI ac sk A ad0 n0 Qs E ad H locs ls N) (fun q => kf q p l e s m args below meth c dC dI ac sk A ad0 n0 Qs E ad H locs ls N)
theorem v_icmp_ne {x y : Int32} {off : Int} {tgt : Nat} (hd : decode cc pc = .ok (.if_icmp .ne off, 3)) (ht : (pc : Int) + off = (tgt : Int)) (kt : ¬ x = y → Vd own nm cc nL ret R Q mc ms k n tgt L st h) (kf : x = y → Vd own nm cc nL ret R Q mc ms k n (pc + 3) L st h) : Vd own nm cc nL ret R Q mc ms k n pc L (.int y :: .int x :: st) h := by
  intro p l e s m args below meth c dC dI ac sk A ad0 n0 Qs E ad H locs ls N
  exact lv_icmp_ne E.1.1 E.1.2.1 hd ht (fun q => kt q p l e s m args below meth c dC dI ac sk A ad0 n0 Qs E ad H locs ls N) (fun q => kf q p l e s m args below meth c dC dI ac sk A ad0 n0 Qs E ad H locs ls N)
theorem v_if_lt {x : Int32} {off : Int} {tgt : Nat} (hd : decode cc pc = .ok (.ifCond .lt off, 3)) (ht : (pc : Int) + off = (tgt : Int)) (kt : x < 0 → Vd own nm cc nL ret R Q mc ms k n tgt L st h) (kf : ¬ x < 0 → Vd own nm cc nL ret R Q mc ms k n (pc + 3) L st h) : Vd own nm cc nL ret R Q mc ms k n pc L (.int x :: st) h := by
  intro p l e s m args below meth c dC dI ac sk A ad0 n0 Qs E ad H locs ls N
  exact lv_if_lt E.1.1 E.1.2.1 hd ht (fun q => kt q p l e s m args below meth c dC dI ac sk A ad0 n0 Qs E ad H locs ls N) (fun q => kf q p l e s m args below meth c dC dI ac sk A ad0 n0 Qs E ad H locs ls N)
theorem v_icmp_lt {x y : Int32} {off : Int} {tgt : Nat} (hd : decode cc pc = .ok (.if_icmp .lt off, 3)) (ht : (pc : Int) + off = (tgt : Int)) (kt : x < y → Vd own nm cc nL ret R Q mc ms k n tgt L st h) (kf : ¬ x < y → Vd own nm cc nL ret R Q mc ms k n (pc + 3) L st h) : Vd own nm cc nL ret R Q mc ms k n pc L (.int y :: .int x :: st) h := by
  intro p l e s m args below meth c dC dI ac sk A ad0 n0 Qs E ad H locs ls N
  exact lv_icmp_lt E.1.1 E.1.2.1 hd ht (fun q => kt q p l e s m args below meth c dC dI ac sk A ad0 n0 Qs E ad H locs ls N) (fun q => kf q p l e s m args below meth c dC dI ac sk A ad0 n0 Qs E ad H locs ls N)
theorem v_if_ge {x : Int32} {off : Int} {tgt : Nat} (hd : decode cc pc = .ok (.ifCond .ge off, 3)) (ht : (pc : Int) + off = (tgt : Int)) (kt : 0 ≤ x → Vd own nm cc nL ret R Q mc ms k n tgt L st h) (kf : ¬ 0 ≤ x → Vd own nm cc nL ret R Q mc ms k n (pc + 3) L st h) : Vd own nm cc nL ret R Q mc ms k n pc L (.int x :: st) h := by
  intro p l e s m args below meth c dC dI ac sk A ad0 n0 Qs E ad H locs ls N
  exact lv_if_ge E.1.1 E.1.2.1 hd ht (fun q => kt q p l e s m args below meth c dC dI ac sk A ad0 n0 Qs E ad H locs ls N) (fun q => kf q p l e s m args below meth c dC dI ac sk A ad0 n0 Qs E ad H locs ls N)
theorem v_icmp_ge {x y : Int32} {off : Int} {tgt : Nat} (hd : decode cc pc = .ok (.if_icmp .ge off, 3)) (ht : (pc : Int) + off = (tgt : Int)) (kt : y ≤ x → Vd own nm cc nL ret R Q mc ms k n tgt L st h) (kf : ¬ y ≤ x → Vd own nm cc nL ret R Q mc ms k n (pc + 3) L st h) : Vd own nm cc nL ret R Q mc ms k n pc L (.int y :: .int x :: st) h := by
  intro p l e s m args below meth c dC dI ac sk A ad0 n0 Qs E ad H locs ls N
  exact lv_icmp_ge E.1.1 E.1.2.1 hd ht (fun q => kt q p l e s m args below meth c dC dI ac sk A ad0 n0 Qs E ad H locs ls N) (fun q => kf q p l e s m args below meth c dC dI ac sk A ad0 n0 Qs E ad H locs ls N)
theorem v_if_gt {x : Int32} {off : Int} {tgt : Nat} (hd : decode cc pc = .ok (.ifCond .gt off, 3)) (ht : (pc : Int) + off = (tgt : Int)) (kt : 0 < x → Vd own nm cc nL ret R Q mc ms k n tgt L st h) (kf : ¬ 0 < x → Vd own nm cc nL ret R Q mc ms k n (pc + 3) L st h) : Vd own nm cc nL ret R Q mc ms k n pc L (.int x :: st) h := by
  intro p l e s m args below meth c dC dI ac sk A ad0 n0 Qs E ad H locs ls N
  exact lv_if_gt E.1.1 E.1.2.1 hd ht (fun q => kt q p l e s m args below meth c dC dI ac sk A ad0 n0 Qs E ad H locs ls N) (fun q => kf q p l e s m args below meth c dC dI ac sk A ad0 n0 Qs E ad H locs ls N)
theorem v_icmp_gt {x y : Int32} {off : Int} {tgt : Nat} (hd : decode cc pc = .ok (.if_icmp .gt off, 3)) (ht : (pc : Int) + off = (tgt : Int)) (kt : y < x → Vd own nm cc nL ret R Q mc ms k n tgt L st h) (kf : ¬ y < x → Vd own nm cc nL ret R Q mc ms k n (pc + 3) L st h) : Vd own nm cc nL ret R Q mc ms k n pc L (.int y :: .int x :: st) h := by
  intro p l e s m args below meth c dC dI ac sk A ad0 n0 Qs E ad H locs ls N
  exact lv_icmp_gt E.1.1 E.1.2.1 hd ht (fun q => kt q p l e s m args below meth c dC dI ac sk A ad0 n0 Qs E ad H locs ls N) (fun q => kf q p l e s m args below meth c dC dI ac sk A ad0 n0 Qs E ad H locs ls N)
theorem v_if_le {x : Int32} {off : Int} {tgt : Nat} (hd : decode cc pc = .ok (.ifCond .le off, 3)) (ht : (pc : Int) + off = (tgt : Int)) (kt : x ≤ 0 → Vd own nm cc nL ret R Q mc ms k n tgt L st h) (kf : ¬ x ≤ 0 → Vd own nm cc nL ret R Q mc ms k n (pc + 3) L st h) : Vd own nm cc nL ret R Q mc ms k n pc L (.int x :: st) h := by
  intro p l e s m args below meth c dC dI ac sk A ad0 n0 Qs E ad H locs ls N
  exact lv_if_le E.1.1 E.1.2.1 hd ht (fun q => kt q p l e s m args below meth c dC dI ac sk A ad0 n0 Qs E ad H locs ls N) (fun q => kf q p l e s m args below meth c dC dI ac sk A ad0 n0 Qs E ad H locs ls N)
theorem v_icmp_le {x y : Int32} {off : Int} {tgt : Nat} (hd : decode cc pc = .ok (.if_icmp .le off, 3)) (ht : (pc : Int) + off = (tgt : Int)) (kt : x ≤ y → Vd own nm cc nL ret R Q mc ms k n tgt L st h) (kf : ¬ x ≤ y → Vd own nm cc nL ret R Q mc ms k n (pc + 3) L st h) : Vd own nm cc nL ret R Q mc ms k n pc L (.int y :: .int x :: st) h := by
  intro p l e s m args below meth c dC dI ac sk A ad0 n0 Qs E ad H locs ls N
  exact lv_icmp_le E.1.1 E.1.2.1 hd ht (fun q => kt q p l e s m args below meth c dC dI ac sk A ad0 n0 Qs E ad H locs ls N) (fun q => kf q p l e s m args below meth c dC dI ac sk A ad0 n0 Qs E ad H locs ls N)
theorem v_goto {off : Int} {tgt : Nat} (hd : decode cc pc = .ok (.goto off, 3)) (ht : (pc : Int) + off = (tgt : Int)) (kk : Vd own nm cc nL ret R Q mc ms k n tgt L st h) : Vd own nm cc nL ret R Q mc ms k n pc L st h := by
  intro p l e s m args below meth c dC dI ac sk A ad0 n0 Qs E ad H locs ls N
  exact lv_goto E.1.1 E.1.2.1 hd ht (kk p l e s m args below meth c dC dI ac sk A ad0 n0 Qs E ad H locs ls N)
theorem v_tOut {dflt lo hi : Int} {offs : Array Int} {len : Nat} {x : Int32} {tgt : Nat} (hd : decode cc pc = .ok (.tableswitch dflt lo hi offs, len)) (hx : x.toInt < lo ∨ hi < x.toInt) (ht : (pc : Int) + dflt = (tgt : Int)) (kk : Vd own nm cc nL ret R Q mc ms k n tgt L st h) : Vd own nm cc nL ret R Q mc ms k n pc L (.int x :: st) h := by
  intro p l e s m args below meth c dC dI ac sk A ad0 n0 Qs E ad H locs ls N
  exact lv_tableOut E.1.1 E.1.2.1 hd hx ht (kk p l e s m args below meth c dC dI ac sk A ad0 n0 Qs E ad H locs ls N)
theorem v_tIn {dflt lo hi : Int} {offs : Array Int} {len : Nat} {x : Int32} (j : Int32) {off : Int} {tgt : Nat} (hd : decode cc pc = .ok (.tableswitch dflt lo hi offs, len)) (hx : x = j) (h1 : ¬ j.toInt < lo) (h2 : ¬ hi < j.toInt) (ho : offs[(j.toInt - lo).toNat]? = some off) (ht : (pc : Int) + off = (tgt : Int)) (kk : Vd own nm cc nL ret R Q mc ms k n tgt L st h) : Vd own nm cc nL ret R Q mc ms k n pc L (.int x :: st) h := by
  subst hx
  intro p l e s m args below meth c dC dI ac sk A ad0 n0 Qs E ad H locs ls N
  exact lv_tableIn E.1.1 E.1.2.1 hd h1 h2 ho ht (kk p l e s m args below meth c dC dI ac sk A ad0 n0 Qs E ad H locs ls N)
theorem v_look {dflt : Int} {ps : Array (Int × Int)} {len : Nat} {x : Int32} {off : Int} {tgt : Nat} (hd : decode cc pc = .ok (.lookupswitch dflt ps, len)) (hp : (ps.toList.zip (ps.toList.drop 1)).all (fun (a, next) => a.1 < next.1) = true) (ho : Op.lookupswitch.offset ps.toList dflt x.toInt = off) (ht : (pc : Int) + off = (tgt : Int)) (kk : Vd own nm cc nL ret R Q mc ms k n tgt L st h) : Vd own nm cc nL ret R Q mc ms k n pc L (.int x :: st) h := by
  intro p l e s m args below meth c dC dI ac sk A ad0 n0 Qs E ad H locs ls N
  exact lv_lookup E.1.1 E.1.2.1 hd hp ho ht (kk p l e s m args below meth c dC dI ac sk A ad0 n0 Qs E ad H locs ls N)
theorem v_ldc {i : Nat} {v : Int32} (hd : decode cc pc = .ok (.ldc i, 2)) (hw : Cond.constant own i v ∈ gw) (kk : Vd own nm cc nL ret R Q mc ms k n (pc + 2) L (.int v :: st) h) : Vd own nm cc nL ret R Q mc ms k n pc L (st) h := by
  intro p l e s m args below meth c dC dI ac sk A ad0 n0 Qs E ad H locs ls N
  exact lv_ldc E.1.1 E.1.2.1 E.1.2.2.2.2.1 (E.1.2.2.2.2.2.1 _ hw) hd (kk p l e s m args below meth c dC dI ac sk A ad0 n0 Qs E ad H locs ls N)
theorem v_ldc2 {i : Nat} {v : Int64} (hd : decode cc pc = .ok (.ldc2_w i, 3)) (hw : Cond.constantLong own i v ∈ gw) (kk : Vd own nm cc nL ret R Q mc ms k n (pc + 3) L (.long v :: st) h) : Vd own nm cc nL ret R Q mc ms k n pc L (st) h := by
  intro p l e s m args below meth c dC dI ac sk A ad0 n0 Qs E ad H locs ls N
  exact lv_ldc2 E.1.1 E.1.2.1 E.1.2.2.2.2.1 (E.1.2.2.2.2.2.1 _ hw) hd (kk p l e s m args below meth c dC dI ac sk A ad0 n0 Qs E ad H locs ls N)
theorem v_topi {x : Int32} (kk : ∀ y : Int32, y = x → Vd own nm cc nL ret R Q mc ms k n pc L (.int y :: st) h) : Vd own nm cc nL ret R Q mc ms k n pc L (.int x :: st) h := kk x rfl
theorem v_topl {x : Int64} (kk : ∀ y : Int64, y = x → Vd own nm cc nL ret R Q mc ms k n pc L (.long y :: st) h) : Vd own nm cc nL ret R Q mc ms k n pc L (.long x :: st) h := kk x rfl
theorem v_loc {L2 : List (Nat × Value)} (ks : List Nat) (hl : lv_pick L ks = L2) (kk : Vd own nm cc nL ret R Q mc ms k n pc L2 st h) : Vd own nm cc nL ret R Q mc ms k n pc L st h := by
  intro p l e s m args below meth c dC dI ac sk A ad0 n0 Qs E ad H locs ls N
  refine kk p l e s m args below meth c dC dI ac sk A ad0 n0 Qs E ad H locs ls (N.loc (fun q hq => ?_))
  rw [← hl] at hq
  obtain ⟨i, -, hi⟩ := List.mem_filterMap.mp hq
  exact List.mem_of_getElem? hi
theorem v_heap {h2 : ab_H} (he : h = h2) (kk : Vd own nm cc nL ret R Q mc ms k n pc L st h2) : Vd own nm cc nL ret R Q mc ms k n pc L st h := he ▸ kk
end VROWS
