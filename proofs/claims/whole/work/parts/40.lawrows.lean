
def h_L (u v : Nat → Nat → Int32) (w : Nat → Int64) : ab_H := [aO 6 [.ref 1, .ref 11, .ref 16, .ref 21, .ref 25, .ref 46, .ref 55, .ref 56, .int (u 0 8), .int (u 0 9)], aO 5 [.ref 2, .ref 4, .ref 9, .ref 10, .int (u 1 4), .int (u 1 5), .int (u 1 6), .int (u 1 7), .int (u 1 8)], aO 4 [.ref 3, .int (u 2 1), .int (u 2 2), .int (u 2 3)], aI 1 160 (u 3), aO 0 [.ref 5, .ref 6, .ref 7, .ref 8, .int (u 4 4), .int (u 4 5), .int (u 4 6), .int (u 4 7), .int (u 4 8), .int (u 4 9), .int (u 4 10), .int (u 4 11)], aI 0 5 (u 5), aI 0 5 (u 6), aI 0 5 (u 7), aI 0 5 (u 8), aI 0 4 (u 9), aI 0 4 (u 10), aO 0 [.ref 12, .ref 13, .ref 14, .ref 15, .int (u 11 4), .int (u 11 5), .int (u 11 6), .int (u 11 7), .int (u 11 8), .int (u 11 9), .int (u 11 10), .int (u 11 11)], aI 0 5 (u 12), aI 0 5 (u 13), aI 0 5 (u 14), aI 0 5 (u 15), aO 0 [.ref 17, .ref 18, .ref 19, .ref 20, .int (u 16 4), .int (u 16 5), .int (u 16 6), .int (u 16 7), .int (u 16 8), .int (u 16 9), .int (u 16 10), .int (u 16 11)], aI 0 5 (u 17), aI 0 5 (u 18), aI 0 5 (u 19), aI 0 5 (u 20), aO 3 [.ref 22, .ref 23, .ref 24, .int (u 21 3)], aI 0 6 (u 22), aI 0 6 (u 23), aI 0 6 (u 24), aR 3 [some 26, some 36], aO 1 [.ref 27, .ref 32, .int (u 26 2)], aO 0 [.ref 28, .ref 29, .ref 30, .ref 31, .int (u 27 4), .int (u 27 5), .int (u 27 6), .int (u 27 7), .int (u 27 8), .int (u 27 9), .int (u 27 10), .int (u 27 11)], aI 0 5 (u 28), aI 0 5 (u 29), aI 0 5 (u 30), aI 0 5 (u 31), aO 3 [.ref 33, .ref 34, .ref 35, .int (u 32 3)], aI 0 6 (u 33), aI 0 6 (u 34), aI 0 6 (u 35), aO 1 [.ref 37, .ref 42, .int (u 36 2)], aO 0 [.ref 38, .ref 39, .ref 40, .ref 41, .int (u 37 4), .int (u 37 5), .int (u 37 6), .int (u 37 7), .int (u 37 8), .int (u 37 9), .int (u 37 10), .int (u 37 11)], aI 0 5 (u 38), aI 0 5 (u 39), aI 0 5 (u 40), aI 0 5 (u 41), aO 3 [.ref 43, .ref 44, .ref 45, .int (u 42 3)], aI 0 6 (u 43), aI 0 6 (u 44), aI 0 6 (u 45), aR 4 [some 47, some 49, some 51, some 53], aO 2 [.ref 48, .int (u 47 1), .int (u 47 2), .int (u 47 3)], aI 0 40 (u 48), aO 2 [.ref 50, .int (u 49 1), .int (u 49 2), .int (u 49 3)], aI 0 40 (u 50), aO 2 [.ref 52, .int (u 51 1), .int (u 51 2), .int (u 51 3)], aI 0 40 (u 52), aO 2 [.ref 54, .int (u 53 1), .int (u 53 2), .int (u 53 3)], aI 0 40 (u 54), aI 0 45 (u 55), aI 0 4500 (u 56), aO 7 [.ref 58, .ref 59, .ref 60, .int (v 0 3), .ref 61, .int (v 0 5), .int (v 0 6), .int (v 0 7), .ref 62, .int (v 0 9), .ref 63, .int (v 0 11), .int (v 0 12), .int (v 0 13), .int (v 0 14), .int (v 0 15), .int (v 0 16), .int (v 0 17), .long (w 18), .long (w 19), .long (w 20), .ref 64, .ref 65, .ref 66, .ref 67, .ref 68, .int (v 0 26), .ref 69], aI 0 123 (v 1), aI 0 41 (v 2), aI 2 2 (v 3), aI 0 41 (v 4), aI 0 8 (v 5), aI 0 160 (v 6), aI 0 50 (v 7), aI 0 5000 (v 8), aI 0 4 (v 9), aI 0 4 (v 10), aI 0 160 (v 11), aI 0 41 (v 12)]
def rrF : List Nat := [0, 1, 2, 3, 4, 5, 6, 7, 8, 9, 10, 11, 12, 13, 14, 15, 16, 17, 18, 19, 20, 21, 22, 23, 24, 25, 26, 27, 28, 29, 30, 31, 32, 33, 34, 35, 36, 37, 38, 39, 40, 41, 42, 43, 44, 45, 46, 47, 48, 49, 50, 51, 52, 53, 54, 55, 56]
def rrM : List Nat := [57, 58, 59, 60, 61, 62, 63, 64, 65, 66, 67, 68, 69]
set_option maxRecDepth 100000 in
set_option maxHeartbeats 4000000 in
theorem hr_F (u v : Nat → Nat → Int32) (w : Nat → Int64) : rrF.map (fun j => (h_L u v w)[j]?) = (h_F u).map (fun c => some (rc (ab_r rrF) c)) := rfl
set_option maxRecDepth 100000 in
set_option maxHeartbeats 4000000 in
theorem hr_M (u v : Nat → Nat → Int32) (w : Nat → Int64) : rrM.map (fun j => (h_L u v w)[j]?) = (h_M v w).map (fun c => some (rc (ab_r rrM) c)) := rfl
theorem ab_put_pre : ∀ (cs a pre b : ab_H), a.length = cs.length → ab_put (pre ++ (a ++ b)) (List.range' pre.length cs.length) cs = pre ++ (cs ++ b) := by
  intro cs
  induction cs with
  | nil =>
    intro a pre b ha
    have e : a = [] := List.length_eq_zero_iff.mp ha
    subst e
    rfl
  | cons c cs ih =>
    intro a pre b ha
    cases a with
    | nil => simp at ha
    | cons x a =>
      have e1 : (pre ++ (x :: a ++ b)).set pre.length c = (pre ++ [c]) ++ (a ++ b) := by simp
      rw [List.length_cons, List.range'_succ, ab_put, e1]
      have e2 : (pre ++ [c]).length = pre.length + 1 := by simp
      rw [← e2, ih a (pre ++ [c]) b (by simpa using ha)]
      simp
set_option maxRecDepth 100000 in
theorem hL_eq (u v : Nat → Nat → Int32) (w : Nat → Int64) : h_L u v w = h_F u ++ (h_M v w).map (rc (fun i => 57 + i)) := rfl
set_option maxRecDepth 100000 in
theorem hF_id (u : Nat → Nat → Int32) : (h_F u).map (rc (ab_r rrF)) = h_F u := rfl
set_option maxRecDepth 100000 in
theorem hM_sh (v : Nat → Nat → Int32) (w : Nat → Int64) : (h_M v w).map (rc (ab_r rrM)) = (h_M v w).map (rc (fun i => 57 + i)) := rfl
theorem hp_F (u u2 v : Nat → Nat → Int32) (w : Nat → Int64) : ab_put (h_L u v w) rrF ((h_F u2).map (rc (ab_r rrF))) = h_L u2 v w := by
  rw [hF_id, hL_eq, hL_eq]
  exact ab_put_pre (h_F u2) (h_F u) [] ((h_M v w).map (rc (fun i => 57 + i))) rfl
theorem hp_M (u v v2 : Nat → Nat → Int32) (w w2 : Nat → Int64) : ab_put (h_L u v w) rrM ((h_M v2 w2).map (rc (ab_r rrM))) = h_L u v2 w2 := by
  rw [hM_sh, hL_eq, hL_eq]
  have h := ab_put_pre ((h_M v2 w2).map (rc (fun i => 57 + i))) ((h_M v w).map (rc (fun i => 57 + i))) (h_F u) [] (by rw [List.length_map, List.length_map]; rfl)
  rw [List.append_nil, List.append_nil] at h
  exact h
theorem nd_F : va_nd rrF = true := by decide
theorem nd_M : va_nd rrM = true := by decide
def Q_law (L : Nat) (xs : Nat → Int32) : ab_Q := (fun v _ => v = some (.int 1), fun s A sk => ∃ b, sk 16 = some b ∧ va_X b L xs s s.heap ∧ b < s.heap.size ∧ ¬ A b)
theorem lg_self (x : Int64) : lg_cmp x x = 0 := by
  unfold lg_cmp
  simp
section VLAW
variable {own nm : String} {cc : ByteArray} {nL : Nat} {ret : Option FieldType} {R : Room} {Lx : Nat} {xs : Nat → Int32} {mc ms k n pc : Nat} {L : List (Nat × Value)} {st : List Value} {h : ab_H}
theorem v_xload {j : Fin 4} (hd : decode cc pc = .ok (.aload_n j, 1)) (hl : ab_lk L j = some (.retAddr 16)) (kk : Vd own nm cc nL ret R (Q_law Lx xs) mc ms k n (pc + 1) L (.retAddr 16 :: st) h) : Vd own nm cc nL ret R (Q_law Lx xs) mc ms k n pc L st h := by
  intro p l e s m args below meth c dC dI ac sk A ad0 n0 Qs E ad H locs ls N
  obtain ⟨b, hb, -⟩ := E.2.2.2.2.2
  have h1 := ab_lk_at hl N.2.2.2.2
  have e1 : xv ad sk (.retAddr 16) = .ref b := by show va_rf (sk 16) = _; rw [hb]; rfl
  rw [e1] at h1
  have k2 := (kk p l e s m args below meth c dC dI ac sk A ad0 n0 Qs E ad H locs ls N)
  rw [List.map_cons, e1] at k2
  exact lv_aload_n E.1.1 E.1.2.1 hd rfl h1 k2
theorem v_xlen (hd : decode cc pc = .ok (.arraylength, 1)) (kk : Vd own nm cc nL ret R (Q_law Lx xs) mc ms k n (pc + 1) L (.int (nI Lx) :: st) h) : Vd own nm cc nL ret R (Q_law Lx xs) mc ms k n pc L (.retAddr 16 :: st) h := by
  intro p l e s m args below meth c dC dI ac sk A ad0 n0 Qs E ad H locs ls N
  obtain ⟨b, hb, hX, hbl, hbA⟩ := E.2.2.2.2.2
  have e1 : xv ad sk (.retAddr 16) = .ref b := by show va_rf (sk 16) = _; rw [hb]; rfl
  rw [List.map_cons, e1]
  exact va_slen E.1.1 E.1.2.1 hX hbl hbA N.2.2.2.1 hd (kk p l e s m args below meth c dC dI ac sk A ad0 n0 Qs E ad H locs ls N)
theorem v_xld {i : Int32} (hd : decode cc pc = .ok (.iaload, 1)) (hi : vp_in i Lx) (kk : Vd own nm cc nL ret R (Q_law Lx xs) mc ms k n (pc + 1) L (.int (xs i.toNatClampNeg) :: st) h) : Vd own nm cc nL ret R (Q_law Lx xs) mc ms k n pc L (.int i :: .retAddr 16 :: st) h := by
  intro p l e s m args below meth c dC dI ac sk A ad0 n0 Qs E ad H locs ls N
  obtain ⟨b, hb, hX, hbl, hbA⟩ := E.2.2.2.2.2
  have e1 : xv ad sk (.retAddr 16) = .ref b := by show va_rf (sk 16) = _; rw [hb]; rfl
  rw [List.map_cons, List.map_cons, e1]
  exact va_sld E.1.1 E.1.2.1 hX hbl hbA N.2.2.2.1 hi hd (kk p l e s m args below meth c dC dI ac sk A ad0 n0 Qs E ad H locs ls N)
variable {Q : ab_Q} {y : MethodName} {cy : ByteArray} {nLy : Nat} {Ry : Room} {h0 : ab_H}
set_option maxHeartbeats 4000000 in
theorem v_ctorJ {idx b k2 n2 : Nat} {ho h2 : ab_H} {c0 c1 : ab_C} (hd : decode cc pc = .ok (.invokespecial idx, 3)) (f : MJ own idx y cy nLy) (hM : Mt y cy nLy none Ry [.ref 0] [c0] (ab_eq none h0)) (hh : h = ho ++ [c1]) (hb : ho.length = b) (hc : c1 = rc (fun i => ho.length + i) c0) (hok : ok_all (ho.length + 1) L st ho = true) (hl2 : 2 ≤ h0.length) (hcat : Nat.ble (st.map fun v => v.category).sum 8 = true) (hR : Ry.frames + 1 ≤ R.frames ∧ 8 + (nLy + 11) + Ry.locals ≤ R.locals) (hk : k + Ry.cells = k2) (hn : n + Ry.slots = n2) (hkk : k2 ≤ R.cells ∧ n2 ≤ R.slots) (h3 : ho ++ h0.map (rc (fun i => ho.length + i)) = h2) (kk : Vd own nm cc nL ret R Q mc ms k2 n2 (pc + 3) L st h2) : Vd own nm cc nL ret R Q mc ms k n pc L (.ref b :: st) h := by
  subst hb; subst hh; subst hk; subst hn; subst h3
  intro p l e s m args below meth c dC dI ac sk A ad0 n0 Qs E ad H locs ls N
  obtain ⟨f1, f2, f4, f5, f7, f6⟩ := f
  have hM := hM l dC dI ac sk (fun i => ad (ho.length + i)) H.size
  have hpre := Mt.preC E N hc
  exact ab_contC E N hc hok hl2 (va_runI (As := []) (rest := st.map (xv ad sk)) (b := ad ho.length) ⟨E.1.1, E.1.2.1, E.1.2.2.2.1, E.1.2.2.2.2.1, E.1.2.2.2.2.2.1⟩ hM (cwI 0 E.1.2.2.2.2.2.1 (gw_code f5) rfl rfl rfl (E.1.2.2.2.2.2.1 _ f4) (E.1.2.2.2.2.2.1 _ f1) (E.1.2.2.2.2.2.1 _ f2) f7 f6 hR) ⟨Mt.blind, hpre⟩ rfl rfl N.2.2.2.2.1 rfl (lv_room (by rw [xv_cats]; exact Nat.le_of_ble_eq_true hcat)) hd ⟨hkk.1, hkk.2⟩) kk
end VLAW
