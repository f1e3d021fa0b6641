
/-! statics, texts, the JDK's copying -/
def ab_ch (i j : Nat) : Int32 := (ab_byt.getD i []).getD j 0
def MC (own : String) (idx : Nat) : Prop := Cond.methodLink own idx arraycopyName ∈ gw ∧ Cond.native arraycopyName ∈ gw ∧ Cond.static arraycopyName ∈ gw ∧ Cond.initialized "java/lang/System" ∈ gw
section VSPEC
variable {own nm : String} {cc : ByteArray} {nL : Nat} {ret : Option FieldType} {R : Room} {Q : ab_Q} {mc ms k n pc : Nat} {L : List (Nat × Value)} {st : List Value} {h : ab_H}
theorem v_ldcw {i : Nat} {v : Int32} (hd : decode cc pc = .ok (.ldc_w i, 3)) (hw : Cond.constant own i v ∈ gw) (kk : Vd own nm cc nL ret R Q mc ms k n (pc + 3) L (.int v :: st) h) : Vd own nm cc nL ret R Q mc ms k n pc L st h := by
  intro p l e s m args below meth c dC dI ac sk A ad0 n0 Qs E ad H locs ls N
  exact lv_ldcw E.1.1 E.1.2.1 E.1.2.2.2.2.1 (E.1.2.2.2.2.2.1 _ hw) hd (kk p l e s m args below meth c dC dI ac sk A ad0 n0 Qs E ad H locs ls N)
theorem v_gets {idx : Nat} (hd : decode cc pc = .ok (.getstatic idx, 3)) (hw : Cond.fieldLink own idx RX6 "FACTORIAL" "[I" ∈ gw) (kk : Vd own nm cc nL ret R Q mc ms k n (pc + 3) L (.retAddr 7 :: st) h) : Vd own nm cc nL ret R Q mc ms k n pc L st h := by
  intro p l e s m args below meth c dC dI ac sk A ad0 n0 Qs E ad H locs ls N
  obtain ⟨-, -, -, ⟨t, h0, h1, -⟩, -⟩ := E.2.2.1
  have k2 := (kk p l e s m args below meth c dC dI ac sk A ad0 n0 Qs E ad H locs ls N)
  have e1 : xv ad sk (.retAddr 7) = .ref t := by show va_rf (sk 7) = _; rw [h0]; rfl
  rw [List.map_cons, e1] at k2
  exact va_gets E.1.1 E.1.2.1 h1 N.2.2.2.1 E.1.2.2.2.2.1 (E.1.2.2.2.2.2.1 _ hw) (fun _ h9 => h9) hd k2
theorem v_tald {i : Int32} (hd : decode cc pc = .ok (.iaload, 1)) (hi : vp_in i 6) (kk : Vd own nm cc nL ret R Q mc ms k n (pc + 1) L (.int (ab_fac i.toNatClampNeg) :: st) h) : Vd own nm cc nL ret R Q mc ms k n pc L (.int i :: .retAddr 7 :: st) h := by
  intro p l e s m args below meth c dC dI ac sk A ad0 n0 Qs E ad H locs ls N
  obtain ⟨-, -, -, ⟨t, h0, -, h1⟩, -⟩ := E.2.2.1
  have e1 : xv ad sk (.retAddr 7) = .ref t := by show va_rf (sk 7) = _; rw [h0]; rfl
  rw [List.map_cons, List.map_cons, e1]
  exact va_ti E.1.1 E.1.2.1 h1 N.2.2.2.1 hi rfl hd (kk p l e s m args below meth c dC dI ac sk A ad0 n0 Qs E ad H locs ls N)
theorem v_ldcS {i idx : Nat} (hd : decode cc pc = .ok (.ldc idx, 2)) (hi : i < 7) (ho : own = RX5) (hx : (ab_str.getD i (0, "")).1 = idx) (kk : Vd own nm cc nL ret R Q mc ms k n (pc + 2) L (.retAddr i :: st) h) : Vd own nm cc nL ret R Q mc ms k n pc L st h := by
  intro p l e s m args below meth c dC dI ac sk A ad0 n0 Qs E ad H locs ls N
  obtain ⟨-, ⟨adK, adV, h2, -⟩, -⟩ := E.2.2.1
  obtain ⟨g1, -, g3⟩ := h2 i hi
  have k2 := (kk p l e s m args below meth c dC dI ac sk A ad0 n0 Qs E ad H locs ls N)
  have e1 : xv ad sk (.retAddr i) = .ref (adK i) := by show va_rf (sk i) = _; rw [g1]; rfl
  rw [List.map_cons, e1] at k2
  rw [hx, ← ho] at g3
  exact va_ldcS E.1.1 E.1.2.1 E.1.2.2.2.2.1 g3 hd k2
theorem v_copy {d idx a b n0 n1 : Nat} {f g : Nat → Int32} {sp dp ln : Int32} {zs zd zn : Nat} {h2 : ab_H} (hd : decode cc pc = .ok (.invokestatic idx, 3)) (w : MC own idx) (hdd : 1 ≤ d) (hcat : Nat.ble (st.map fun v => v.category).sum 8 = true) (ha : h[a]? = some (aI 0 n0 f)) (hb : h[b]? = some (aI 0 n1 g)) (h1 : ¬ sp < 0) (h3 : ¬ dp < 0) (h4 : ¬ ln < 0) (e1 : sp.toNatClampNeg = zs) (e2 : dp.toNatClampNeg = zd) (e3 : ln.toNatClampNeg = zn) (h5 : zs + zn ≤ n0) (h6 : zd + zn ≤ n1) (he : h.set b (aI 0 n1 (va_cpy f g zs zd zn)) = h2) (kk : Vd own nm cc nL ret (rm d) Q mc ms k n (pc + 3) L st h2) : Vd own nm cc nL ret (rm d) Q mc ms k n pc L (.int ln :: .int dp :: .ref b :: .int sp :: .ref a :: st) h := by
  intro p l e s m args below meth c dC dI ac sk A ad0 n0 Qs E ad H locs ls N
  subst e1; subst e2; subst e3; subst he
  refine va_copyi (ty := .int) E.1.1 E.1.2.1 (E.1.2.2.2.1.trans N.2.2.2.2.1.symm) E.1.2.2.2.2.1 (E.1.2.2.2.2.2.1 _ w.1) (E.1.2.2.2.2.2.1 _ w.2.1) (E.1.2.2.2.2.2.1 _ w.2.2.1) (E.1.2.2.2.2.2.1 _ w.2.2.2) E.2.2.2.1 N.2.1 N.2.2.1 N.2.2.2.1 a b 0 0 (xw_of ha) (xw_of hb) rfl rfl rfl h1 h3 h4 h5 h6 (fun _ _ => rfl) hdd ?_ hd (fun H1 locs1 hP hD hS => ?_)
  · rw [xv_cats]
    have := Nat.le_of_ble_eq_true hcat
    have e : nativeFrameWords "java/lang/System" "arraycopy" 5 = 7 := by decide
    rw [e]
    show _ ≤ 35 * d
    omega
  · exact kk p l e s m args below meth c dC dI ac sk A ad0 n0 Qs E ad H1 locs1 ls (N.upd (c := aI 0 n1 (va_cpy f g sp.toNatClampNeg dp.toNatClampNeg ln.toNatClampNeg)) hP hD hS)
/-! texts -/
theorem v_sval {i idx : Nat} (hd : decode cc pc = .ok (.getfield idx, 3)) (hi : i < 7) (hw : Cond.fieldLink own idx "java/lang/String" "value" "[B" ∈ gw) (kk : Vd own nm cc nL ret R Q mc ms k n (pc + 3) L (.retAddr (8 + i) :: st) h) : Vd own nm cc nL ret R Q mc ms k n pc L (.retAddr i :: st) h := by
  intro p l e s m args below meth c dC dI ac sk A ad0 n0 Qs E ad H locs ls N
  obtain ⟨-, ⟨adK, adV, h2, h3⟩, -⟩ := E.2.2.1
  obtain ⟨g1, g2, -⟩ := h2 i hi
  have k2 := (kk p l e s m args below meth c dC dI ac sk A ad0 n0 Qs E ad H locs ls N)
  have e1 : xv ad sk (.retAddr i) = .ref (adK i) := by show va_rf (sk i) = _; rw [g1]; rfl
  have e2 : xv ad sk (.retAddr (8 + i)) = .ref (adV i) := by show va_rf (sk (8 + i)) = _; rw [g2]; rfl
  rw [List.map_cons, e2] at k2
  rw [List.map_cons, e1]
  exact vk_getf E.1.1 E.1.2.1 (h3.1 i hi).2.2.1 N.2.2.2.1 E.1.2.2.2.2.1 (E.1.2.2.2.2.2.1 _ hw) (fun _ h9 => h9) hd k2
theorem v_scod {i idx : Nat} (hd : decode cc pc = .ok (.getfield idx, 3)) (hi : i < 7) (hw : Cond.fieldLink own idx "java/lang/String" "coder" "B" ∈ gw) (kk : Vd own nm cc nL ret R Q mc ms k n (pc + 3) L (.int 0 :: st) h) : Vd own nm cc nL ret R Q mc ms k n pc L (.retAddr i :: st) h := by
  intro p l e s m args below meth c dC dI ac sk A ad0 n0 Qs E ad H locs ls N
  obtain ⟨-, ⟨adK, adV, h2, h3⟩, -⟩ := E.2.2.1
  obtain ⟨g1, g2, -⟩ := h2 i hi
  have e1 : xv ad sk (.retAddr i) = .ref (adK i) := by show va_rf (sk i) = _; rw [g1]; rfl
  rw [List.map_cons, e1]
  exact vk_getf E.1.1 E.1.2.1 (h3.1 i hi).2.1 N.2.2.2.1 E.1.2.2.2.2.1 (E.1.2.2.2.2.2.1 _ hw) (fun _ h9 => h9) hd (kk p l e s m args below meth c dC dI ac sk A ad0 n0 Qs E ad H locs ls N)
theorem v_slen {i : Nat} (hd : decode cc pc = .ok (.arraylength, 1)) (hi : i < 7) (kk : Vd own nm cc nL ret R Q mc ms k n (pc + 1) L (.int (Int32.ofNat (ab_len.getD i 0)) :: st) h) : Vd own nm cc nL ret R Q mc ms k n pc L (.retAddr (8 + i) :: st) h := by
  intro p l e s m args below meth c dC dI ac sk A ad0 n0 Qs E ad H locs ls N
  obtain ⟨-, ⟨adK, adV, h2, h3⟩, -⟩ := E.2.2.1
  obtain ⟨g1, g2, -⟩ := h2 i hi
  have e2 : xv ad sk (.retAddr (8 + i)) = .ref (adV i) := by show va_rf (sk (8 + i)) = _; rw [g2]; rfl
  rw [List.map_cons, e2]
  exact va_tlen E.1.1 E.1.2.1 (h3.1 i hi).2.2.2 N.2.2.2.1 rfl hd (kk p l e s m args below meth c dC dI ac sk A ad0 n0 Qs E ad H locs ls N)
theorem v_sbald {i : Nat} {j : Int32} (hd : decode cc pc = .ok (.baload, 1)) (hi : i < 7) (hj : vp_in j (ab_len.getD i 0)) (kk : Vd own nm cc nL ret R Q mc ms k n (pc + 1) L (.int (ab_ch i j.toNatClampNeg) :: st) h) : Vd own nm cc nL ret R Q mc ms k n pc L (.int j :: .retAddr (8 + i) :: st) h := by
  intro p l e s m args below meth c dC dI ac sk A ad0 n0 Qs E ad H locs ls N
  obtain ⟨-, ⟨adK, adV, h2, h3⟩, -⟩ := E.2.2.1
  obtain ⟨g1, g2, -⟩ := h2 i hi
  have e2 : xv ad sk (.retAddr (8 + i)) = .ref (adV i) := by show va_rf (sk (8 + i)) = _; rw [g2]; rfl
  rw [List.map_cons, List.map_cons, e2]
  exact va_tb E.1.1 E.1.2.1 (h3.1 i hi).2.2.2 N.2.2.2.1 hj rfl hd (kk p l e s m args below meth c dC dI ac sk A ad0 n0 Qs E ad H locs ls N)
theorem v_getsC {idx : Nat} (hd : decode cc pc = .ok (.getstatic idx, 3)) (hw : Cond.fieldLink own idx "java/lang/String" "COMPACT_STRINGS" "Z" ∈ gw) (kk : Vd own nm cc nL ret R Q mc ms k n (pc + 3) L (.int 1 :: st) h) : Vd own nm cc nL ret R Q mc ms k n pc L st h := by
  intro p l e s m args below meth c dC dI ac sk A ad0 n0 Qs E ad H locs ls N
  exact va_gets E.1.1 E.1.2.1 E.2.2.1.2.2.1 N.2.2.2.1 E.1.2.2.2.2.1 (E.1.2.2.2.2.2.1 _ hw) (fun _ h9 => h9) hd (kk p l e s m args below meth c dC dI ac sk A ad0 n0 Qs E ad H locs ls N)
theorem v_getsP {idx : Nat} (hd : decode cc pc = .ok (.getstatic idx, 3)) (hw : Cond.fieldLink own idx "jdk/internal/util/Preconditions" "SIOOBE_FORMATTER" "Ljava/util/function/BiFunction;" ∈ gw) (kk : Vd own nm cc nL ret R Q mc ms k n (pc + 3) L (.retAddr 15 :: st) h) : Vd own nm cc nL ret R Q mc ms k n pc L st h := by
  intro p l e s m args below meth c dC dI ac sk A ad0 n0 Qs E ad H locs ls N
  exact va_gets E.1.1 E.1.2.1 E.2.2.1.2.2.2.2.1 N.2.2.2.1 E.1.2.2.2.2.1 (E.1.2.2.2.2.2.1 _ hw) (fun _ h9 => h9) hd (kk p l e s m args below meth c dC dI ac sk A ad0 n0 Qs E ad H locs ls N)
theorem v_i2c {x : Int32} (hd : decode cc pc = .ok (.i2c, 1)) (kk : Vd own nm cc nL ret R Q mc ms k n (pc + 1) L (.int (x.toUInt32 % 65536).toInt32 :: st) h) : Vd own nm cc nL ret R Q mc ms k n pc L (.int x :: st) h := by
  intro p l e s m args below meth c dC dI ac sk A ad0 n0 Qs E ad H locs ls N
  exact lv_i2c E.1.1 E.1.2.1 hd rfl (kk p l e s m args below meth c dC dI ac sk A ad0 n0 Qs E ad H locs ls N)
variable {y : MethodName} {cy : ByteArray} {nLy : Nat} {rety : Option FieldType} {As : List Value} {v0 : Option Value} {d dy : Nat} {st2 : List Value}
set_option maxHeartbeats 4000000 in
/-- an instance method of a text -/
theorem v_cT {idx np i : Nat} {stk : List Value} (hd : decode cc pc = .ok (.invokevirtual idx, 3)) (f : MV own idx y cy nLy rety np) (hM : Mt y cy nLy rety (rm dy) (.retAddr i :: As) [] (ab_eq v0 [])) (hAs : ∀ v ∈ As, rv (ab_r []) v = v) (hv0 : v0.map (rv (ab_r [])) = v0) (hstk : stk = As.reverse ++ .retAddr i :: st) (hnp : As.length = np) (hi : i < 7) (hy : y.cls = "java/lang/String") (hcat : Nat.ble (st.map fun v => v.category).sum 8 = true) (hR : dy + 1 ≤ d) (hR2 : nLy ≤ 16) (hst : v0.toList ++ st = st2) (kk : Vd own nm cc nL ret (rm d) Q mc ms 0 0 (pc + 3) L st2 h) : Vd own nm cc nL ret (rm d) Q mc ms 0 0 pc L stk h := by
  intro p l e s m args below meth c dC dI ac sk A ad0 n0 Qs E ad H locs ls N
  obtain ⟨f1, f2, f3, f4, f5, f6⟩ := f
  have hM := hM l dC dI ac sk (fun i => ad (ab_r [] i)) H.size
  have hg : GoodIn gw (wsV own idx y.cls y (Cond.code y cy nLy rety :: gw)) := fun w hw => by
    rcases List.mem_append.mp hw with hw | hw
    · simp only [List.mem_cons, List.not_mem_nil, or_false] at hw
      rcases hw with rfl | rfl | rfl | rfl
      · exact gw_all _ f1
      · exact gw_all _ f2
      · exact gw_all _ f3
      · exact gw_all _ f4
    · exact gw_code f5 w hw
  have ha : (Value.retAddr i :: As).map (rv (ab_r [])) = Value.retAddr i :: As := by
    rw [List.map_cons]
    congr 1
    exact (List.map_congr_left hAs).trans (List.map_id As)
  have hpre := Mt.pre E N [] (hs := []) rfl rfl ha
  obtain ⟨-, ⟨adK, adV, q2, q3⟩, -⟩ := E.2.2.1
  obtain ⟨g1, -, -⟩ := q2 i hi
  have e1 : xv ad sk (.retAddr i) = .ref (adK i) := by show va_rf (sk i) = _; rw [g1]; rfl
  rw [show (Value.retAddr i :: As).map (xv ad sk) = Value.ref (adK i) :: As.map (xv ad sk) by rw [List.map_cons, e1]] at hpre
  subst hstk
  refine ab_cont E N [] (hs := []) rfl rfl (Qc := ab_eq v0 []) (va_runV (As := As.map (xv ad sk)) (rest := st.map (xv ad sk)) (b := adK i) (C := y.cls) ⟨E.1.1, E.1.2.1, E.1.2.2.2.1, E.1.2.2.2.2.1, E.1.2.2.2.2.2.1⟩ hM (cwV np E.1.2.2.2.2.2.1 hg rfl rfl rfl ⟨rfl, f6.1, f6.2.1, f6.2.2⟩ (rm_ok hR hR2)) ⟨Mt.blind, ?_, hpre⟩ rfl (by rw [List.length_map]; exact hnp) N.2.2.2.2.1 (by show List.map _ _ = _; simp [e1]) (lv_room (by rw [xv_cats]; exact Nat.le_of_ble_eq_true hcat)) hd ⟨Nat.le_refl _, Nat.le_refl _⟩) (fun v h' hq => by rw [hq.2]) (fun v h' hq => ?_)
  · rw [hy]
    exact vk_recv q3 hi N.2.2.2.1
  · rw [hq.1, hq.2, hv0, hst]
    exact kk
end VSPEC
