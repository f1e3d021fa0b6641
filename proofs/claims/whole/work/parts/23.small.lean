def d_G_append (u : (Nat → Nat → Int32)) (a1 : Int32) (a2 : Int32) (a3 : Int32) : Option (Int32 × (Nat → Nat → Int32)) := if (u 0 3) < (6 : Int32) then (if gi (u 0 3) 6 = true then if gi (u 0 3) 6 = true then if gi (u 0 3) 6 = true then dl ((u 0 3) + (1 : Int32)) fun zy5 => some ((1 : Int32), (pw (pw (pw (pw u 1 (u 0 3).toNatClampNeg a1) 2 (u 0 3).toNatClampNeg a2) 3 (u 0 3).toNatClampNeg a3) 0 3 zy5)) else none else none else none) else (some ((0 : Int32), u))
set_option maxRecDepth 100000 in
set_option maxHeartbeats 4000000 in
theorem v_G_append (u : (Nat → Nat → Int32)) (a1 : Int32) (a2 : Int32) (a3 : Int32) {r : Int32 × (Nat → Nat → Int32)} (hd : d_G_append u a1 a2 a3 = some r) : Vd RX3 "append" cX3_append 4 (some .boolean) (rm 0) (ab_eq (some (.int r.1)) (h_G r.2)) 0 0 0 0 0 [(0, .ref 0), (1, .int a1), (2, .int a2), (3, .int a3)] [] (h_G u) := by
  unfold d_G_append at hd
  refine v_aload_n dX3_append_0 rfl ?_
  refine v_get (v := .int (u 0 3)) dX3_append_1 fl_X3_21 rfl rfl ?_
  refine v_bipush dX3_append_4 bp_6 ?_
  refine v_icmp_lt (tgt := 11) dX3_append_6 (by decide) (fun zc1 => ?_) (fun zc1 => ?_)
  · have hd := g_t hd zc1
    refine v_aload_n dX3_append_11 rfl ?_
    refine v_get (v := .ref 1) dX3_append_12 fl_X3_9 rfl rfl ?_
    refine v_aload_n dX3_append_15 rfl ?_
    refine v_get (v := .int (u 0 3)) dX3_append_16 fl_X3_21 rfl rfl ?_
    refine v_iload_n dX3_append_19 rfl ?_
    obtain ⟨zg2, hd⟩ := g_b hd
    refine v_ist (f := (u 1)) (h2 := (h_G (pw u 1 (u 0 3).toNatClampNeg a1))) dX3_append_20 rfl (gi_in zg2) rfl ?_
    refine v_aload_n dX3_append_21 rfl ?_
    refine v_get (v := .ref 2) dX3_append_22 fl_X3_15 rfl rfl ?_
    refine v_aload_n dX3_append_25 rfl ?_
    refine v_get (v := .int (u 0 3)) dX3_append_26 fl_X3_21 rfl rfl ?_
    refine v_iload_n dX3_append_29 rfl ?_
    obtain ⟨zg3, hd⟩ := g_b hd
    refine v_ist (f := (u 2)) (h2 := (h_G (pw (pw u 1 (u 0 3).toNatClampNeg a1) 2 (u 0 3).toNatClampNeg a2))) dX3_append_30 rfl (gi_in zg3) rfl ?_
    refine v_aload_n dX3_append_31 rfl ?_
    refine v_get (v := .ref 3) dX3_append_32 fl_X3_18 rfl rfl ?_
    refine v_aload_n dX3_append_35 rfl ?_
    refine v_get (v := .int (u 0 3)) dX3_append_36 fl_X3_21 rfl rfl ?_
    refine v_iload_n dX3_append_39 rfl ?_
    obtain ⟨zg4, hd⟩ := g_b hd
    refine v_ist (f := (u 3)) (h2 := (h_G (pw (pw (pw u 1 (u 0 3).toNatClampNeg a1) 2 (u 0 3).toNatClampNeg a2) 3 (u 0 3).toNatClampNeg a3))) dX3_append_40 rfl (gi_in zg4) rfl ?_
    refine v_aload_n dX3_append_41 rfl ?_
    refine v_dup dX3_append_42 rfl ?_
    refine v_get (v := .int (u 0 3)) dX3_append_43 fl_X3_21 rfl rfl ?_
    refine v_iconst dX3_append_46 ic_1 ?_
    refine v_iadd dX3_append_47 ?_
    refine v_topi (fun zy5 ze6 => ?_)
    have hd := dl_n hd zy5 ze6
    refine v_pti (h2 := (h_G (pw (pw (pw (pw u 1 (u 0 3).toNatClampNeg a1) 2 (u 0 3).toNatClampNeg a2) 3 (u 0 3).toNatClampNeg a3) 0 3 zy5))) dX3_append_48 fl_X3_21 rfl (Nat.le_of_ble_eq_true rfl) rfl ?_
    refine v_iconst dX3_append_51 ic_1 ?_
    obtain rfl := Option.some.inj hd
    exact v_iretE dX3_append_52 rfl rfl rfl rfl
  · have hd := g_f hd zc1
    refine v_iconst dX3_append_9 ic_0 ?_
    obtain rfl := Option.some.inj hd
    exact v_iretE dX3_append_10 rfl rfl rfl rfl
theorem m_G_append (u : (Nat → Nat → Int32)) (a1 : Int32) (a2 : Int32) (a3 : Int32) {r : Int32 × (Nat → Nat → Int32)} (hd : d_G_append u a1 a2 a3 = some r) : Mt yX3_append cX3_append 4 (some .boolean) (rm 0) [.ref 0, .int a1, .int a2, .int a3] (h_G u) (ab_eq (some (.int r.1)) (h_G r.2)) := Mt.of (by decide +kernel) (fun _ _ _ => trivial) (Nat.le_of_ble_eq_true rfl) (v_G_append u a1 a2 a3 hd)
def d_GG_becomeLike (u : (Nat → Nat → Int32)) : Option ((Nat → Nat → Int32)) := dl (u 4 3) fun zy1 => some (pw (pr (pr (pr u 1 (va_cpy (u 5) (u 1) 0 0 6)) 2 (va_cpy (u 6) (u 2) 0 0 6)) 3 (va_cpy (u 7) (u 3) 0 0 6)) 0 3 zy1)
set_option maxRecDepth 100000 in
set_option maxHeartbeats 4000000 in
theorem v_GG_becomeLike (u : (Nat → Nat → Int32)) {r : (Nat → Nat → Int32)} (hd : d_GG_becomeLike u = some r) : Vd RX3 "becomeLike" cX3_becomeLike 2 none (rm 1) (ab_eq none (h_GG r)) 0 0 0 0 0 [(0, .ref 0), (1, .ref 4)] [] (h_GG u) := by
  unfold d_GG_becomeLike at hd
  refine v_aload_n dX3_becomeLike_0 rfl ?_
  refine v_get (v := .ref 5) dX3_becomeLike_1 fl_X3_9 rfl rfl ?_
  refine v_iconst dX3_becomeLike_4 ic_0 ?_
  refine v_aload_n dX3_becomeLike_5 rfl ?_
  refine v_get (v := .ref 1) dX3_becomeLike_6 fl_X3_9 rfl rfl ?_
  refine v_iconst dX3_becomeLike_9 ic_0 ?_
  refine v_bipush dX3_becomeLike_10 bp_6 ?_
  refine v_copy (f := (u 5)) (g := (u 1)) (zs := 0) (zd := 0) (zn := 6) (h2 := (h_GG (pr u 1 (va_cpy (u 5) (u 1) 0 0 6)))) dX3_becomeLike_12 mc_X3_25 (by decide) rfl rfl rfl (by decide) (by decide) (by decide) (by decide) (by decide) (by decide) (by decide) (by decide) rfl ?_
  refine v_aload_n dX3_becomeLike_15 rfl ?_
  refine v_get (v := .ref 6) dX3_becomeLike_16 fl_X3_15 rfl rfl ?_
  refine v_iconst dX3_becomeLike_19 ic_0 ?_
  refine v_aload_n dX3_becomeLike_20 rfl ?_
  refine v_get (v := .ref 2) dX3_becomeLike_21 fl_X3_15 rfl rfl ?_
  refine v_iconst dX3_becomeLike_24 ic_0 ?_
  refine v_bipush dX3_becomeLike_25 bp_6 ?_
  refine v_copy (f := (u 6)) (g := (u 2)) (zs := 0) (zd := 0) (zn := 6) (h2 := (h_GG (pr (pr u 1 (va_cpy (u 5) (u 1) 0 0 6)) 2 (va_cpy (u 6) (u 2) 0 0 6)))) dX3_becomeLike_27 mc_X3_25 (by decide) rfl rfl rfl (by decide) (by decide) (by decide) (by decide) (by decide) (by decide) (by decide) (by decide) rfl ?_
  refine v_aload_n dX3_becomeLike_30 rfl ?_
  refine v_get (v := .ref 7) dX3_becomeLike_31 fl_X3_18 rfl rfl ?_
  refine v_iconst dX3_becomeLike_34 ic_0 ?_
  refine v_aload_n dX3_becomeLike_35 rfl ?_
  refine v_get (v := .ref 3) dX3_becomeLike_36 fl_X3_18 rfl rfl ?_
  refine v_iconst dX3_becomeLike_39 ic_0 ?_
  refine v_bipush dX3_becomeLike_40 bp_6 ?_
  refine v_copy (f := (u 7)) (g := (u 3)) (zs := 0) (zd := 0) (zn := 6) (h2 := (h_GG (pr (pr (pr u 1 (va_cpy (u 5) (u 1) 0 0 6)) 2 (va_cpy (u 6) (u 2) 0 0 6)) 3 (va_cpy (u 7) (u 3) 0 0 6)))) dX3_becomeLike_42 mc_X3_25 (by decide) rfl rfl rfl (by decide) (by decide) (by decide) (by decide) (by decide) (by decide) (by decide) (by decide) rfl ?_
  refine v_aload_n dX3_becomeLike_45 rfl ?_
  refine v_aload_n dX3_becomeLike_46 rfl ?_
  refine v_get (v := .int (u 4 3)) dX3_becomeLike_47 fl_X3_21 rfl rfl ?_
  refine v_topi (fun zy1 ze2 => ?_)
  have hd := dl_n hd zy1 ze2
  refine v_pti (h2 := (h_GG (pw (pr (pr (pr u 1 (va_cpy (u 5) (u 1) 0 0 6)) 2 (va_cpy (u 6) (u 2) 0 0 6)) 3 (va_cpy (u 7) (u 3) 0 0 6)) 0 3 zy1))) dX3_becomeLike_50 fl_X3_21 rfl (Nat.le_of_ble_eq_true rfl) rfl ?_
  obtain rfl := Option.some.inj hd
  exact v_vretE dX3_becomeLike_53 rfl rfl rfl
theorem m_GG_becomeLike (u : (Nat → Nat → Int32)) {r : (Nat → Nat → Int32)} (hd : d_GG_becomeLike u = some r) : Mt yX3_becomeLike cX3_becomeLike 2 none (rm 1) [.ref 0, .ref 4] (h_GG u) (ab_eq none (h_GG r)) := Mt.of (by decide +kernel) (fun _ _ _ => trivial) (Nat.le_of_ble_eq_true rfl) (v_GG_becomeLike u hd)

def d_G_mostNights_4  : Nat → (Nat → Nat → Int32) → Int32 → Int32 → Option Int32
  | 0, _, _, _ => none
  | f + 1, u, x1, x2 => if (u 0 3) ≤ x2 then (some x1) else (if gi x2 6 = true then (d_P_max x1 ((u 2) x2.toNatClampNeg)).bind fun zr3 => dl (x2 + (1 : Int32)) fun zy5 => d_G_mostNights_4 f u zr3 zy5 else none)
set_option maxRecDepth 100000 in
set_option maxHeartbeats 4000000 in
theorem v_G_mostNights_4  {r : Int32}  : ∀ (f : Nat) (u : (Nat → Nat → Int32)) (x1 : Int32) (x2 : Int32), d_G_mostNights_4  f u x1 x2 = some r → Vd RX3 "mostNights" cX3_mostNights 3 (some .int) (rm 1) (ab_eq (some (.int r)) (h_G u)) 0 0 0 0 4 [(0, .ref 0), (1, .int x1), (2, .int x2)] [] (h_G u) := by
  intro f
  induction f with
  | zero =>
    intro u x1 x2 hd
    rw [d_G_mostNights_4] at hd
    cases hd
  | succ f ih =>
    intro u x1 x2 hd
    rw [d_G_mostNights_4] at hd
    refine v_iload_n dX3_mostNights_4 rfl ?_
    refine v_aload_n dX3_mostNights_5 rfl ?_
    refine v_get (v := .int (u 0 3)) dX3_mostNights_6 fl_X3_21 rfl rfl ?_
    refine v_icmp_ge (tgt := 29) dX3_mostNights_9 (by decide) (fun zc1 => ?_) (fun zc1 => ?_)
    · have hd := g_t hd zc1
      refine v_iload_n dX3_mostNights_29 rfl ?_
      obtain rfl := Option.some.inj hd
      exact v_iretE dX3_mostNights_30 rfl rfl rfl rfl
    · have hd := g_f hd zc1
      refine v_iload_n dX3_mostNights_12 rfl ?_
      refine v_aload_n dX3_mostNights_13 rfl ?_
      refine v_get (v := .ref 2) dX3_mostNights_14 fl_X3_15 rfl rfl ?_
      refine v_iload_n dX3_mostNights_17 rfl ?_
      obtain ⟨zg2, hd⟩ := g_b hd
      refine v_iald (f := (u 2)) dX3_mostNights_18 rfl (gi_in zg2) ?_
      obtain ⟨zr3, zh4, hd⟩ := g_bind hd
      refine v_cS (dy := 0) (st := []) (st2 := [.int zr3]) (h2 := (h_G u)) [] dX3_mostNights_19 mz_X3_31 (m_P_max x1 ((u 2) x2.toNatClampNeg) zh4) rfl rfl rfl rfl rfl rfl (by decide) (by decide) rfl rfl rfl ?_
      refine v_istore_n (i := 1) (L2 := [(1, .int zr3), (0, .ref 0), (2, .int x2)]) dX3_mostNights_22 rfl (Nat.le_of_ble_eq_true rfl) rfl ?_
      obtain ⟨zy5, ze6⟩ : ∃ z : Int32, z = (x2 + (1 : Int32)) := ⟨_, rfl⟩
      have hd := dl_n hd zy5 ze6
      refine v_iinc (v := zy5) (L2 := [(2, .int zy5), (1, .int zr3), (0, .ref 0)]) dX3_mostNights_23 rfl (by rw [ic_1]; exact ze6.symm) (Nat.le_of_ble_eq_true rfl) rfl ?_
      refine v_goto (tgt := 4) dX3_mostNights_26 (by decide) ?_
      refine v_loc [2, 1, 0] rfl ?_
      exact ih u zr3 zy5 hd
def d_G_mostNights (u : (Nat → Nat → Int32)) : Option Int32 := d_G_mostNights_4 FU u (0 : Int32) (0 : Int32)
set_option maxRecDepth 100000 in
set_option maxHeartbeats 4000000 in
theorem v_G_mostNights (u : (Nat → Nat → Int32)) {r : Int32} (hd : d_G_mostNights u = some r) : Vd RX3 "mostNights" cX3_mostNights 3 (some .int) (rm 1) (ab_eq (some (.int r)) (h_G u)) 0 0 0 0 0 [(0, .ref 0)] [] (h_G u) := by
  unfold d_G_mostNights at hd
  refine v_iconst dX3_mostNights_0 ic_0 ?_
  refine v_istore_n (i := 1) (L2 := [(1, .int (0 : Int32)), (0, .ref 0)]) dX3_mostNights_1 rfl (Nat.le_of_ble_eq_true rfl) rfl ?_
  refine v_iconst dX3_mostNights_2 ic_0 ?_
  refine v_istore_n (i := 2) (L2 := [(2, .int (0 : Int32)), (1, .int (0 : Int32)), (0, .ref 0)]) dX3_mostNights_3 rfl (Nat.le_of_ble_eq_true rfl) rfl ?_
  refine v_loc [2, 1, 0] rfl ?_
  exact v_G_mostNights_4 FU u (0 : Int32) (0 : Int32) hd
theorem m_G_mostNights (u : (Nat → Nat → Int32)) {r : Int32} (hd : d_G_mostNights u = some r) : Mt yX3_mostNights cX3_mostNights 3 (some .int) (rm 1) [.ref 0] (h_G u) (ab_eq (some (.int r)) (h_G u)) := Mt.of (by decide +kernel) (fun _ _ _ => trivial) (Nat.le_of_ble_eq_true rfl) (v_G_mostNights u hd)

def d_GL_agreesWith_2  : Nat → (Nat → Nat → Int32) → Int32 → Option Int32
  | 0, _, _ => none
  | f + 1, u, x2 => if (u 0 3) ≤ x2 then (some (1 : Int32)) else (if gi x2 6 = true then if gi x2 6 = true then (d_P_slot ((u 1) x2.toNatClampNeg) ((u 2) x2.toNatClampNeg)).bind fun zr4 => if gi zr4 45 = true then if gi x2 6 = true then if ((u 4) zr4.toNatClampNeg) = ((u 3) x2.toNatClampNeg) then (dl (x2 + (1 : Int32)) fun zy9 => d_GL_agreesWith_2 f u zy9) else (some (0 : Int32)) else none else none else none else none)
set_option maxRecDepth 100000 in
set_option maxHeartbeats 4000000 in
theorem v_GL_agreesWith_2  {r : Int32}  : ∀ (f : Nat) (u : (Nat → Nat → Int32)) (x2 : Int32), d_GL_agreesWith_2  f u x2 = some r → Vd RX3 "agreesWith" cX3_agreesWith 3 (some .boolean) (rm 1) (ab_eq (some (.int r)) (h_GL u)) 0 0 0 0 2 [(0, .ref 0), (1, .ref 4), (2, .int x2)] [] (h_GL u) := by
  intro f
  induction f with
  | zero =>
    intro u x2 hd
    rw [d_GL_agreesWith_2] at hd
    cases hd
  | succ f ih =>
    intro u x2 hd
    rw [d_GL_agreesWith_2] at hd
    refine v_iload_n dX3_agreesWith_2 rfl ?_
    refine v_aload_n dX3_agreesWith_3 rfl ?_
    refine v_get (v := .int (u 0 3)) dX3_agreesWith_4 fl_X3_21 rfl rfl ?_
    refine v_icmp_ge (tgt := 44) dX3_agreesWith_7 (by decide) (fun zc1 => ?_) (fun zc1 => ?_)
    · have hd := g_t hd zc1
      refine v_iconst dX3_agreesWith_44 ic_1 ?_
      obtain rfl := Option.some.inj hd
      exact v_iretE dX3_agreesWith_45 rfl rfl rfl rfl
    · have hd := g_f hd zc1
      refine v_aload_n dX3_agreesWith_10 rfl ?_
      refine v_aload_n dX3_agreesWith_11 rfl ?_
      refine v_get (v := .ref 1) dX3_agreesWith_12 fl_X3_9 rfl rfl ?_
      refine v_iload_n dX3_agreesWith_15 rfl ?_
      obtain ⟨zg2, hd⟩ := g_b hd
      refine v_iald (f := (u 1)) dX3_agreesWith_16 rfl (gi_in zg2) ?_
      refine v_aload_n dX3_agreesWith_17 rfl ?_
      refine v_get (v := .ref 2) dX3_agreesWith_18 fl_X3_15 rfl rfl ?_
      refine v_iload_n dX3_agreesWith_21 rfl ?_
      obtain ⟨zg3, hd⟩ := g_b hd
      refine v_iald (f := (u 2)) dX3_agreesWith_22 rfl (gi_in zg3) ?_
      obtain ⟨zr4, zh5, hd⟩ := g_bind hd
      refine v_cN (dy := 0) (st := [.ref 4]) (st2 := [.int zr4, .ref 4]) (h2 := (h_GL u)) [] dX3_agreesWith_23 mn_X3_37 (m_P_slot ((u 1) x2.toNatClampNeg) ((u 2) x2.toNatClampNeg) zh5) rfl rfl rfl rfl rfl rfl (by decide) (by decide) rfl rfl rfl ?_
      obtain ⟨zg6, hd⟩ := g_b hd
      refine v_iald (f := (u 4)) dX3_agreesWith_26 rfl (gi_in zg6) ?_
      refine v_aload_n dX3_agreesWith_27 rfl ?_
      refine v_get (v := .ref 3) dX3_agreesWith_28 fl_X3_18 rfl rfl ?_
      refine v_iload_n dX3_agreesWith_31 rfl ?_
      obtain ⟨zg7, hd⟩ := g_b hd
      refine v_iald (f := (u 3)) dX3_agreesWith_32 rfl (gi_in zg7) ?_
      refine v_icmp_eq (tgt := 38) dX3_agreesWith_33 (by decide) (fun zc8 => ?_) (fun zc8 => ?_)
      · have hd := g_t hd zc8
        obtain ⟨zy9, ze10⟩ : ∃ z : Int32, z = (x2 + (1 : Int32)) := ⟨_, rfl⟩
        have hd := dl_n hd zy9 ze10
        refine v_iinc (v := zy9) (L2 := [(2, .int zy9), (0, .ref 0), (1, .ref 4)]) dX3_agreesWith_38 rfl (by rw [ic_1]; exact ze10.symm) (Nat.le_of_ble_eq_true rfl) rfl ?_
        refine v_goto (tgt := 2) dX3_agreesWith_41 (by decide) ?_
        refine v_loc [1, 2, 0] rfl ?_
        exact ih u zy9 hd
      · have hd := g_f hd zc8
        refine v_iconst dX3_agreesWith_36 ic_0 ?_
        obtain rfl := Option.some.inj hd
        exact v_iretE dX3_agreesWith_37 rfl rfl rfl rfl
def d_GL_agreesWith (u : (Nat → Nat → Int32)) : Option Int32 := d_GL_agreesWith_2 FU u (0 : Int32)
set_option maxRecDepth 100000 in
set_option maxHeartbeats 4000000 in
theorem v_GL_agreesWith (u : (Nat → Nat → Int32)) {r : Int32} (hd : d_GL_agreesWith u = some r) : Vd RX3 "agreesWith" cX3_agreesWith 3 (some .boolean) (rm 1) (ab_eq (some (.int r)) (h_GL u)) 0 0 0 0 0 [(0, .ref 0), (1, .ref 4)] [] (h_GL u) := by
  unfold d_GL_agreesWith at hd
  refine v_iconst dX3_agreesWith_0 ic_0 ?_
  refine v_istore_n (i := 2) (L2 := [(2, .int (0 : Int32)), (0, .ref 0), (1, .ref 4)]) dX3_agreesWith_1 rfl (Nat.le_of_ble_eq_true rfl) rfl ?_
  refine v_loc [1, 2, 0] rfl ?_
  exact v_GL_agreesWith_2 FU u (0 : Int32) hd
theorem m_GL_agreesWith (u : (Nat → Nat → Int32)) {r : Int32} (hd : d_GL_agreesWith u = some r) : Mt yX3_agreesWith cX3_agreesWith 3 (some .boolean) (rm 1) [.ref 0, .ref 4] (h_GL u) (ab_eq (some (.int r)) (h_GL u)) := Mt.of (by decide +kernel) (fun _ _ _ => trivial) (Nat.le_of_ble_eq_true rfl) (v_GL_agreesWith u hd)
def d_S_renew (u : (Nat → Nat → Int32)) (a1 : Int32) (a2 : Int32) : Option ((Nat → Nat → Int32)) := (d_A40_fill (sh u 1) (0 : Int32)).bind fun zr1 => some (pw (pw (pw (pt u 1 1 zr1) 0 1 (1 : Int32)) 0 2 a1) 0 3 a2)
set_option maxRecDepth 100000 in
set_option maxHeartbeats 4000000 in
theorem v_S_renew (u : (Nat → Nat → Int32)) (a1 : Int32) (a2 : Int32) {r : (Nat → Nat → Int32)} (hd : d_S_renew u a1 a2 = some r) : Vd RX2 "renew" cX2_renew 3 none (rm 1) (ab_eq none (h_S r)) 0 0 0 0 0 [(0, .ref 0), (1, .int a1), (2, .int a2)] [] (h_S u) := by
  unfold d_S_renew at hd
  refine v_aload_n dX2_renew_0 rfl ?_
  refine v_get (v := .ref 1) dX2_renew_1 fl_X2_9 rfl rfl ?_
  refine v_iconst dX2_renew_4 ic_0 ?_
  obtain ⟨zr1, zh2, hd⟩ := g_bind hd
  refine v_cS (dy := 0) (st2 := []) (h2 := (h_S (pt u 1 1 zr1))) [1] dX2_renew_5 mz_X2_15 (m_A40_fill (sh u 1) (0 : Int32) zh2) rfl rfl rfl rfl rfl rfl (by decide) (by decide) rfl rfl rfl ?_
  refine v_aload_n dX2_renew_8 rfl ?_
  refine v_iconst dX2_renew_9 ic_1 ?_
  refine v_ptz (h2 := (h_S (pw (pt u 1 1 zr1) 0 1 (1 : Int32)))) dX2_renew_10 fl_X2_21 rfl (Or.inr rfl) (Nat.le_of_ble_eq_true rfl) rfl ?_
  refine v_aload_n dX2_renew_13 rfl ?_
  refine v_iload_n dX2_renew_14 rfl ?_
  refine v_pti (h2 := (h_S (pw (pw (pt u 1 1 zr1) 0 1 (1 : Int32)) 0 2 a1))) dX2_renew_15 fl_X2_25 rfl (Nat.le_of_ble_eq_true rfl) rfl ?_
  refine v_aload_n dX2_renew_18 rfl ?_
  refine v_iload_n dX2_renew_19 rfl ?_
  refine v_pti (h2 := (h_S (pw (pw (pw (pt u 1 1 zr1) 0 1 (1 : Int32)) 0 2 a1) 0 3 a2))) dX2_renew_20 fl_X2_29 rfl (Nat.le_of_ble_eq_true rfl) rfl ?_
  obtain rfl := Option.some.inj hd
  exact v_vretE dX2_renew_23 rfl rfl rfl
theorem m_S_renew (u : (Nat → Nat → Int32)) (a1 : Int32) (a2 : Int32) {r : (Nat → Nat → Int32)} (hd : d_S_renew u a1 a2 = some r) : Mt yX2_renew cX2_renew 3 none (rm 1) [.ref 0, .int a1, .int a2] (h_S u) (ab_eq none (h_S r)) := Mt.of (by decide +kernel) (fun _ _ _ => trivial) (Nat.le_of_ble_eq_true rfl) (v_S_renew u a1 a2 hd)
def d_S_tearAt (u : (Nat → Nat → Int32)) (a1 : Int32) (a2 : Int32) : Option Int32 := if (u 0 1) = 0 then (some (1 : Int32)) else (if (u 0 2) = a1 then ((d_P_outside a2 (0 : Int32) ((u 0 3) - (1 : Int32))).bind fun zr3 => if zr3 = 0 then (some (0 : Int32)) else (some (2 : Int32))) else (some (3 : Int32)))
set_option maxRecDepth 100000 in
set_option maxHeartbeats 4000000 in
theorem v_S_tearAt (u : (Nat → Nat → Int32)) (a1 : Int32) (a2 : Int32) {r : Int32} (hd : d_S_tearAt u a1 a2 = some r) : Vd RX2 "tearAt" cX2_tearAt 3 (some .int) (rm 1) (ab_eq (some (.int r)) (h_S u)) 0 0 0 0 0 [(0, .ref 0), (1, .int a1), (2, .int a2)] [] (h_S u) := by
  unfold d_S_tearAt at hd
  refine v_aload_n dX2_tearAt_0 rfl ?_
  refine v_get (v := .int (u 0 1)) dX2_tearAt_1 fl_X2_21 rfl rfl ?_
  refine v_if_ne (tgt := 9) dX2_tearAt_4 (by decide) (fun zc1 => ?_) (fun zc1 => ?_)
  · have hd := g_f hd zc1
    refine v_aload_n dX2_tearAt_9 rfl ?_
    refine v_get (v := .int (u 0 2)) dX2_tearAt_10 fl_X2_25 rfl rfl ?_
    refine v_iload_n dX2_tearAt_13 rfl ?_
    refine v_icmp_eq (tgt := 19) dX2_tearAt_14 (by decide) (fun zc2 => ?_) (fun zc2 => ?_)
    · have hd := g_t hd zc2
      refine v_iload_n dX2_tearAt_19 rfl ?_
      refine v_iconst dX2_tearAt_20 ic_0 ?_
      refine v_aload_n dX2_tearAt_21 rfl ?_
      refine v_get (v := .int (u 0 3)) dX2_tearAt_22 fl_X2_29 rfl rfl ?_
      refine v_iconst dX2_tearAt_25 ic_1 ?_
      refine v_isub dX2_tearAt_26 ?_
      obtain ⟨zr3, zh4, hd⟩ := g_bind hd
      refine v_cN (dy := 0) (st := []) (st2 := [.int zr3]) (h2 := (h_S u)) [] dX2_tearAt_27 mn_X2_32 (m_P_outside a2 (0 : Int32) ((u 0 3) - (1 : Int32)) zh4) rfl rfl rfl rfl rfl rfl (by decide) (by decide) rfl rfl rfl ?_
      refine v_if_eq (tgt := 37) dX2_tearAt_30 (by decide) (fun zc5 => ?_) (fun zc5 => ?_)
      · have hd := g_t hd zc5
        refine v_iconst dX2_tearAt_37 ic_0 ?_
        obtain rfl := Option.some.inj hd
        exact v_iretE dX2_tearAt_38 rfl rfl rfl rfl
      · have hd := g_f hd zc5
        refine v_iconst dX2_tearAt_33 ic_2 ?_
        refine v_goto (tgt := 38) dX2_tearAt_34 (by decide) ?_
        obtain rfl := Option.some.inj hd
        exact v_iretE dX2_tearAt_38 rfl rfl rfl rfl
    · have hd := g_f hd zc2
      refine v_iconst dX2_tearAt_17 ic_3 ?_
      obtain rfl := Option.some.inj hd
      exact v_iretE dX2_tearAt_18 rfl rfl rfl rfl
  · have hd := g_t hd zc1
    refine v_iconst dX2_tearAt_7 ic_1 ?_
    obtain rfl := Option.some.inj hd
    exact v_iretE dX2_tearAt_8 rfl rfl rfl rfl
theorem m_S_tearAt (u : (Nat → Nat → Int32)) (a1 : Int32) (a2 : Int32) {r : Int32} (hd : d_S_tearAt u a1 a2 = some r) : Mt yX2_tearAt cX2_tearAt 3 (some .int) (rm 1) [.ref 0, .int a1, .int a2] (h_S u) (ab_eq (some (.int r)) (h_S u)) := Mt.of (by decide +kernel) (fun _ _ _ => trivial) (Nat.le_of_ble_eq_true rfl) (v_S_tearAt u a1 a2 hd)
def d_S_tearOfPair (u : (Nat → Nat → Int32)) (a1 : Int32) (a2 : Int32) : Option Int32 := (d_S_tearAt u a1 a2).bind fun zr1 => if zr1 = 0 then ((d_S_tearAt u a1 (a2 + (1 : Int32))).bind fun zr4 => some zr4) else (some zr1)
set_option maxRecDepth 100000 in
set_option maxHeartbeats 4000000 in
theorem v_S_tearOfPair (u : (Nat → Nat → Int32)) (a1 : Int32) (a2 : Int32) {r : Int32} (hd : d_S_tearOfPair u a1 a2 = some r) : Vd RX2 "tearOfPair" cX2_tearOfPair 4 (some .int) (rm 2) (ab_eq (some (.int r)) (h_S u)) 0 0 0 0 0 [(0, .ref 0), (1, .int a1), (2, .int a2)] [] (h_S u) := by
  unfold d_S_tearOfPair at hd
  refine v_aload_n dX2_tearOfPair_0 rfl ?_
  refine v_iload_n dX2_tearOfPair_1 rfl ?_
  refine v_iload_n dX2_tearOfPair_2 rfl ?_
  obtain ⟨zr1, zh2, hd⟩ := g_bind hd
  refine v_cI (dy := 1) (st := []) (st2 := [.int zr1]) dX2_tearOfPair_3 mv_X2_36 (m_S_tearAt u a1 a2 zh2) rfl rfl rfl rfl rfl (by decide) (by decide) rfl rfl ?_
  refine v_istore_n (i := 3) (L2 := [(3, .int zr1), (0, .ref 0), (1, .int a1), (2, .int a2)]) dX2_tearOfPair_6 rfl (Nat.le_of_ble_eq_true rfl) rfl ?_
  refine v_iload_n dX2_tearOfPair_7 rfl ?_
  refine v_if_eq (tgt := 15) dX2_tearOfPair_8 (by decide) (fun zc3 => ?_) (fun zc3 => ?_)
  · have hd := g_t hd zc3
    refine v_aload_n dX2_tearOfPair_15 rfl ?_
    refine v_iload_n dX2_tearOfPair_16 rfl ?_
    refine v_iload_n dX2_tearOfPair_17 rfl ?_
    refine v_iconst dX2_tearOfPair_18 ic_1 ?_
    refine v_iadd dX2_tearOfPair_19 ?_
    obtain ⟨zr4, zh5, hd⟩ := g_bind hd
    refine v_cI (dy := 1) (st := []) (st2 := [.int zr4]) dX2_tearOfPair_20 mv_X2_36 (m_S_tearAt u a1 (a2 + (1 : Int32)) zh5) rfl rfl rfl rfl rfl (by decide) (by decide) rfl rfl ?_
    obtain rfl := Option.some.inj hd
    exact v_iretE dX2_tearOfPair_23 rfl rfl rfl rfl
  · have hd := g_f hd zc3
    refine v_iload_n dX2_tearOfPair_11 rfl ?_
    refine v_goto (tgt := 23) dX2_tearOfPair_12 (by decide) ?_
    obtain rfl := Option.some.inj hd
    exact v_iretE dX2_tearOfPair_23 rfl rfl rfl rfl
theorem m_S_tearOfPair (u : (Nat → Nat → Int32)) (a1 : Int32) (a2 : Int32) {r : Int32} (hd : d_S_tearOfPair u a1 a2 = some r) : Mt yX2_tearOfPair cX2_tearOfPair 4 (some .int) (rm 2) [.ref 0, .int a1, .int a2] (h_S u) (ab_eq (some (.int r)) (h_S u)) := Mt.of (by decide +kernel) (fun _ _ _ => trivial) (Nat.le_of_ble_eq_true rfl) (v_S_tearOfPair u a1 a2 hd)
def d_S_cellAt (u : (Nat → Nat → Int32)) (a1 : Int32) : Option Int32 := (d_P_outside a1 (0 : Int32) (39 : Int32)).bind fun zr1 => if zr1 = 0 then (if gi a1 40 = true then some ((u 1) a1.toNatClampNeg) else none) else (some (0 : Int32))
set_option maxRecDepth 100000 in
set_option maxHeartbeats 4000000 in
theorem v_S_cellAt (u : (Nat → Nat → Int32)) (a1 : Int32) {r : Int32} (hd : d_S_cellAt u a1 = some r) : Vd RX2 "cellAt" cX2_cellAt 2 (some .int) (rm 1) (ab_eq (some (.int r)) (h_S u)) 0 0 0 0 0 [(0, .ref 0), (1, .int a1)] [] (h_S u) := by
  unfold d_S_cellAt at hd
  refine v_iload_n dX2_cellAt_0 rfl ?_
  refine v_iconst dX2_cellAt_1 ic_0 ?_
  refine v_bipush dX2_cellAt_2 bp_39 ?_
  obtain ⟨zr1, zh2, hd⟩ := g_bind hd
  refine v_cN (dy := 0) (st := []) (st2 := [.int zr1]) (h2 := (h_S u)) [] dX2_cellAt_4 mn_X2_32 (m_P_outside a1 (0 : Int32) (39 : Int32) zh2) rfl rfl rfl rfl rfl rfl (by decide) (by decide) rfl rfl rfl ?_
  refine v_if_eq (tgt := 14) dX2_cellAt_7 (by decide) (fun zc3 => ?_) (fun zc3 => ?_)
  · have hd := g_t hd zc3
    refine v_aload_n dX2_cellAt_14 rfl ?_
    refine v_get (v := .ref 1) dX2_cellAt_15 fl_X2_9 rfl rfl ?_
    refine v_iload_n dX2_cellAt_18 rfl ?_
    obtain ⟨zg4, hd⟩ := g_b hd
    refine v_iald (f := (u 1)) dX2_cellAt_19 rfl (gi_in zg4) ?_
    obtain rfl := Option.some.inj hd
    exact v_iretE dX2_cellAt_20 rfl rfl rfl rfl
  · have hd := g_f hd zc3
    refine v_iconst dX2_cellAt_10 ic_0 ?_
    refine v_goto (tgt := 20) dX2_cellAt_11 (by decide) ?_
    obtain rfl := Option.some.inj hd
    exact v_iretE dX2_cellAt_20 rfl rfl rfl rfl
theorem m_S_cellAt (u : (Nat → Nat → Int32)) (a1 : Int32) {r : Int32} (hd : d_S_cellAt u a1 = some r) : Mt yX2_cellAt cX2_cellAt 2 (some .int) (rm 1) [.ref 0, .int a1] (h_S u) (ab_eq (some (.int r)) (h_S u)) := Mt.of (by decide +kernel) (fun _ _ _ => trivial) (Nat.le_of_ble_eq_true rfl) (v_S_cellAt u a1 hd)
def d_S_put (u : (Nat → Nat → Int32)) (a1 : Int32) (a2 : Int32) : Option ((Nat → Nat → Int32)) := (d_P_outside a1 (0 : Int32) (39 : Int32)).bind fun zr1 => if zr1 = 0 then (if (u 0 2) = (0 : Int32) then (if gi a1 40 = true then some (pw u 1 a1.toNatClampNeg a2.toInt8.toInt32) else none) else if (u 0 2) = (1 : Int32) then (if gi a1 40 = true then some (pw u 1 a1.toNatClampNeg a2.toInt16.toInt32) else none) else (if gi a1 40 = true then some (pw u 1 a1.toNatClampNeg a2) else none)) else (some u)
set_option maxRecDepth 100000 in
set_option maxHeartbeats 4000000 in
theorem v_S_put (u : (Nat → Nat → Int32)) (a1 : Int32) (a2 : Int32) {r : (Nat → Nat → Int32)} (hd : d_S_put u a1 a2 = some r) : Vd RX2 "put" cX2_put 3 none (rm 1) (ab_eq none (h_S r)) 0 0 0 0 0 [(0, .ref 0), (1, .int a1), (2, .int a2)] [] (h_S u) := by
  unfold d_S_put at hd
  refine v_iload_n dX2_put_0 rfl ?_
  refine v_iconst dX2_put_1 ic_0 ?_
  refine v_bipush dX2_put_2 bp_39 ?_
  obtain ⟨zr1, zh2, hd⟩ := g_bind hd
  refine v_cN (dy := 0) (st := []) (st2 := [.int zr1]) (h2 := (h_S u)) [] dX2_put_4 mn_X2_32 (m_P_outside a1 (0 : Int32) (39 : Int32) zh2) rfl rfl rfl rfl rfl rfl (by decide) (by decide) rfl rfl rfl ?_
  refine v_if_eq (tgt := 11) dX2_put_7 (by decide) (fun zc3 => ?_) (fun zc3 => ?_)
  · have hd := g_t hd zc3
    refine v_aload_n dX2_put_11 rfl ?_
    refine v_get (v := .int (u 0 2)) dX2_put_12 fl_X2_25 rfl rfl ?_
    by_cases zc4 : (u 0 2) = (0 : Int32)
    · have hd := g_t hd zc4
      refine v_look (off := 25) (tgt := 40) dX2_put_15 (by decide) (by rw [zc4]; first | done | rfl) (by decide) ?_
      refine v_aload_n dX2_put_40 rfl ?_
      refine v_get (v := .ref 1) dX2_put_41 fl_X2_9 rfl rfl ?_
      refine v_iload_n dX2_put_44 rfl ?_
      refine v_iload_n dX2_put_45 rfl ?_
      refine v_i2b dX2_put_46 ?_
      obtain ⟨zg5, hd⟩ := g_b hd
      refine v_ist (f := (u 1)) (h2 := (h_S (pw u 1 a1.toNatClampNeg a2.toInt8.toInt32))) dX2_put_47 rfl (gi_in zg5) rfl ?_
      refine v_goto (tgt := 69) dX2_put_48 (by decide) ?_
      obtain rfl := Option.some.inj hd
      exact v_vretE dX2_put_69 rfl rfl rfl
    have hd := g_f hd zc4
    by_cases zc6 : (u 0 2) = (1 : Int32)
    · have hd := g_t hd zc6
      refine v_look (off := 36) (tgt := 51) dX2_put_15 (by decide) (by rw [zc6]; first | done | rfl) (by decide) ?_
      refine v_aload_n dX2_put_51 rfl ?_
      refine v_get (v := .ref 1) dX2_put_52 fl_X2_9 rfl rfl ?_
      refine v_iload_n dX2_put_55 rfl ?_
      refine v_iload_n dX2_put_56 rfl ?_
      refine v_i2s dX2_put_57 ?_
      obtain ⟨zg7, hd⟩ := g_b hd
      refine v_ist (f := (u 1)) (h2 := (h_S (pw u 1 a1.toNatClampNeg a2.toInt16.toInt32))) dX2_put_58 rfl (gi_in zg7) rfl ?_
      refine v_goto (tgt := 69) dX2_put_59 (by decide) ?_
      obtain rfl := Option.some.inj hd
      exact v_vretE dX2_put_69 rfl rfl rfl
    have hd := g_f hd zc6
    refine v_look (off := 47) (tgt := 62) dX2_put_15 (by decide) (by show Op.lookupswitch.offset [(0, 25), (1, 36)] _ _ = _; rw [lv_osw (a := 0) zc4 rfl, lv_osw (a := 1) zc6 rfl]; first | done | rfl) (by decide) ?_
    refine v_aload_n dX2_put_62 rfl ?_
    refine v_get (v := .ref 1) dX2_put_63 fl_X2_9 rfl rfl ?_
    refine v_iload_n dX2_put_66 rfl ?_
    refine v_iload_n dX2_put_67 rfl ?_
    obtain ⟨zg8, hd⟩ := g_b hd
    refine v_ist (f := (u 1)) (h2 := (h_S (pw u 1 a1.toNatClampNeg a2))) dX2_put_68 rfl (gi_in zg8) rfl ?_
    obtain rfl := Option.some.inj hd
    exact v_vretE dX2_put_69 rfl rfl rfl
  · have hd := g_f hd zc3
    obtain rfl := Option.some.inj hd
    exact v_vretE dX2_put_10 rfl rfl rfl
theorem m_S_put (u : (Nat → Nat → Int32)) (a1 : Int32) (a2 : Int32) {r : (Nat → Nat → Int32)} (hd : d_S_put u a1 a2 = some r) : Mt yX2_put cX2_put 3 none (rm 1) [.ref 0, .int a1, .int a2] (h_S u) (ab_eq none (h_S r)) := Mt.of (by decide +kernel) (fun _ _ _ => trivial) (Nat.le_of_ble_eq_true rfl) (v_S_put u a1 a2 hd)
def d_T_append (u : (Nat → Nat → Int32)) (a1 : Int32) : Option (Int32 × (Nat → Nat → Int32)) := if (u 0 2) < (160 : Int32) then (if gi (u 0 2) 160 = true then dl ((u 0 2) + (1 : Int32)) fun zy3 => some ((1 : Int32), (pw (pw u 1 (u 0 2).toNatClampNeg (vp_nar .byte a1.toInt8.toInt32)) 0 2 zy3)) else none) else (some ((0 : Int32), u))
set_option maxRecDepth 100000 in
set_option maxHeartbeats 4000000 in
theorem v_T_append (u : (Nat → Nat → Int32)) (a1 : Int32) {r : Int32 × (Nat → Nat → Int32)} (hd : d_T_append u a1 = some r) : Vd RX4 "append" cX4_append 2 (some .boolean) (rm 0) (ab_eq (some (.int r.1)) (h_T r.2)) 0 0 0 0 0 [(0, .ref 0), (1, .int a1)] [] (h_T u) := by
  unfold d_T_append at hd
  refine v_aload_n dX4_append_0 rfl ?_
  refine v_get (v := .int (u 0 2)) dX4_append_1 fl_X4_15 rfl rfl ?_
  refine v_sipush dX4_append_4 sp_160 ?_
  refine v_icmp_lt (tgt := 12) dX4_append_7 (by decide) (fun zc1 => ?_) (fun zc1 => ?_)
  · have hd := g_t hd zc1
    refine v_aload_n dX4_append_12 rfl ?_
    refine v_get (v := .ref 1) dX4_append_13 fl_X4_9 rfl rfl ?_
    refine v_aload_n dX4_append_16 rfl ?_
    refine v_get (v := .int (u 0 2)) dX4_append_17 fl_X4_15 rfl rfl ?_
    refine v_iload_n dX4_append_20 rfl ?_
    refine v_i2b dX4_append_21 ?_
    obtain ⟨zg2, hd⟩ := g_b hd
    refine v_bst (f := (u 1)) (h2 := (h_T (pw u 1 (u 0 2).toNatClampNeg (vp_nar .byte a1.toInt8.toInt32)))) dX4_append_22 rfl (gi_in zg2) rfl ?_
    refine v_aload_n dX4_append_23 rfl ?_
    refine v_dup dX4_append_24 rfl ?_
    refine v_get (v := .int (u 0 2)) dX4_append_25 fl_X4_15 rfl rfl ?_
    refine v_iconst dX4_append_28 ic_1 ?_
    refine v_iadd dX4_append_29 ?_
    refine v_topi (fun zy3 ze4 => ?_)
    have hd := dl_n hd zy3 ze4
    refine v_pti (h2 := (h_T (pw (pw u 1 (u 0 2).toNatClampNeg (vp_nar .byte a1.toInt8.toInt32)) 0 2 zy3))) dX4_append_30 fl_X4_15 rfl (Nat.le_of_ble_eq_true rfl) rfl ?_
    refine v_iconst dX4_append_33 ic_1 ?_
    obtain rfl := Option.some.inj hd
    exact v_iretE dX4_append_34 rfl rfl rfl rfl
  · have hd := g_f hd zc1
    refine v_iconst dX4_append_10 ic_0 ?_
    obtain rfl := Option.some.inj hd
    exact v_iretE dX4_append_11 rfl rfl rfl rfl
theorem m_T_append (u : (Nat → Nat → Int32)) (a1 : Int32) {r : Int32 × (Nat → Nat → Int32)} (hd : d_T_append u a1 = some r) : Mt yX4_append cX4_append 2 (some .boolean) (rm 0) [.ref 0, .int a1] (h_T u) (ab_eq (some (.int r.1)) (h_T r.2)) := Mt.of (by decide +kernel) (fun _ _ _ => trivial) (Nat.le_of_ble_eq_true rfl) (v_T_append u a1 hd)
def d_T_rewind (u : (Nat → Nat → Int32)) : Option ((Nat → Nat → Int32)) := some (pw (pw u 0 1 (0 : Int32)) 0 3 (0 : Int32))
set_option maxRecDepth 100000 in
set_option maxHeartbeats 4000000 in
theorem v_T_rewind (u : (Nat → Nat → Int32)) {r : (Nat → Nat → Int32)} (hd : d_T_rewind u = some r) : Vd RX4 "rewind" cX4_rewind 1 none (rm 0) (ab_eq none (h_T r)) 0 0 0 0 0 [(0, .ref 0)] [] (h_T u) := by
  unfold d_T_rewind at hd
  refine v_aload_n dX4_rewind_0 rfl ?_
  refine v_iconst dX4_rewind_1 ic_0 ?_
  refine v_pti (h2 := (h_T (pw u 0 1 (0 : Int32)))) dX4_rewind_2 fl_X4_19 rfl (Nat.le_of_ble_eq_true rfl) rfl ?_
  refine v_aload_n dX4_rewind_5 rfl ?_
  refine v_iconst dX4_rewind_6 ic_0 ?_
  refine v_pti (h2 := (h_T (pw (pw u 0 1 (0 : Int32)) 0 3 (0 : Int32)))) dX4_rewind_7 fl_X4_22 rfl (Nat.le_of_ble_eq_true rfl) rfl ?_
  obtain rfl := Option.some.inj hd
  exact v_vretE dX4_rewind_10 rfl rfl rfl
theorem m_T_rewind (u : (Nat → Nat → Int32)) {r : (Nat → Nat → Int32)} (hd : d_T_rewind u = some r) : Mt yX4_rewind cX4_rewind 1 none (rm 0) [.ref 0] (h_T u) (ab_eq none (h_T r)) := Mt.of (by decide +kernel) (fun _ _ _ => trivial) (Nat.le_of_ble_eq_true rfl) (v_T_rewind u hd)

def d_T_signAt_51  (u : (Nat → Nat → Int32)) (x2 : Int32) : Option Int32 := if x2 < (48 : Int32) then (some (4 : Int32)) else (if (57 : Int32) < x2 then (some (4 : Int32)) else (some (2 : Int32)))
set_option maxRecDepth 100000 in
set_option maxHeartbeats 4000000 in
theorem v_T_signAt_51  {r : Int32}  (u : (Nat → Nat → Int32)) (x2 : Int32) (hd : d_T_signAt_51  u x2 = some r) : Vd RX4 "signAt" cX4_signAt 3 (some .int) (rm 0) (ab_eq (some (.int r)) (h_T u)) 0 0 0 0 51 [(2, .int x2)] [] (h_T u) := by
  unfold d_T_signAt_51 at hd
  refine v_iload_n dX4_signAt_51 rfl ?_
  refine v_bipush dX4_signAt_52 bp_48 ?_
  refine v_icmp_lt (tgt := 67) dX4_signAt_54 (by decide) (fun zc9 => ?_) (fun zc9 => ?_)
  · have hd := g_t hd zc9
    refine v_iconst dX4_signAt_67 ic_4 ?_
    obtain rfl := Option.some.inj hd
    exact v_iretE dX4_signAt_68 rfl rfl rfl rfl
  · have hd := g_f hd zc9
    refine v_iload_n dX4_signAt_57 rfl ?_
    refine v_bipush dX4_signAt_58 bp_57 ?_
    refine v_icmp_gt (tgt := 67) dX4_signAt_60 (by decide) (fun zc10 => ?_) (fun zc10 => ?_)
    · have hd := g_t hd zc10
      refine v_iconst dX4_signAt_67 ic_4 ?_
      obtain rfl := Option.some.inj hd
      exact v_iretE dX4_signAt_68 rfl rfl rfl rfl
    · have hd := g_f hd zc10
      refine v_iconst dX4_signAt_63 ic_2 ?_
      refine v_goto (tgt := 68) dX4_signAt_64 (by decide) ?_
      obtain rfl := Option.some.inj hd
      exact v_iretE dX4_signAt_68 rfl rfl rfl rfl
def d_T_signAt (u : (Nat → Nat → Int32)) (a1 : Int32) : Option Int32 := if a1 < 0 then (some (0 : Int32)) else (if a1 < (u 0 2) then (if gi a1 160 = true then dl ((u 1) a1.toNatClampNeg) fun zy4 => if zy4 = (32 : Int32) then (some (5 : Int32)) else (if zy4 = (59 : Int32) then (some (3 : Int32)) else (if zy4 < (97 : Int32) then (d_T_signAt_51 u zy4) else (if (122 : Int32) < zy4 then (d_T_signAt_51 u zy4) else (some (1 : Int32))))) else none) else (some (0 : Int32)))
set_option maxRecDepth 100000 in
set_option maxHeartbeats 4000000 in
theorem v_T_signAt (u : (Nat → Nat → Int32)) (a1 : Int32) {r : Int32} (hd : d_T_signAt u a1 = some r) : Vd RX4 "signAt" cX4_signAt 3 (some .int) (rm 0) (ab_eq (some (.int r)) (h_T u)) 0 0 0 0 0 [(0, .ref 0), (1, .int a1)] [] (h_T u) := by
  unfold d_T_signAt at hd
  refine v_iload_n dX4_signAt_0 rfl ?_
  refine v_if_lt (tgt := 12) dX4_signAt_1 (by decide) (fun zc1 => ?_) (fun zc1 => ?_)
  · have hd := g_t hd zc1
    refine v_iconst dX4_signAt_12 ic_0 ?_
    obtain rfl := Option.some.inj hd
    exact v_iretE dX4_signAt_13 rfl rfl rfl rfl
  · have hd := g_f hd zc1
    refine v_iload_n dX4_signAt_4 rfl ?_
    refine v_aload_n dX4_signAt_5 rfl ?_
    refine v_get (v := .int (u 0 2)) dX4_signAt_6 fl_X4_15 rfl rfl ?_
    refine v_icmp_lt (tgt := 14) dX4_signAt_9 (by decide) (fun zc2 => ?_) (fun zc2 => ?_)
    · have hd := g_t hd zc2
      refine v_aload_n dX4_signAt_14 rfl ?_
      refine v_get (v := .ref 1) dX4_signAt_15 fl_X4_9 rfl rfl ?_
      refine v_iload_n dX4_signAt_18 rfl ?_
      obtain ⟨zg3, hd⟩ := g_b hd
      refine v_bald (f := (u 1)) dX4_signAt_19 rfl (gi_in zg3) ?_
      refine v_topi (fun zy4 ze5 => ?_)
      have hd := dl_n hd zy4 ze5
      refine v_istore_n (i := 2) (L2 := [(2, .int zy4), (0, .ref 0), (1, .int a1)]) dX4_signAt_20 rfl (Nat.le_of_ble_eq_true rfl) rfl ?_
      refine v_iload_n dX4_signAt_21 rfl ?_
      refine v_bipush dX4_signAt_22 bp_32 ?_
      refine v_icmp_ne (tgt := 29) dX4_signAt_24 (by decide) (fun zc6 => ?_) (fun zc6 => ?_)
      · have hd := g_f hd zc6
        refine v_iload_n dX4_signAt_29 rfl ?_
        refine v_bipush dX4_signAt_30 bp_59 ?_
        refine v_icmp_ne (tgt := 37) dX4_signAt_32 (by decide) (fun zc7 => ?_) (fun zc7 => ?_)
        · have hd := g_f hd zc7
          refine v_iload_n dX4_signAt_37 rfl ?_
          refine v_bipush dX4_signAt_38 bp_97 ?_
          refine v_icmp_lt (tgt := 51) dX4_signAt_40 (by decide) (fun zc8 => ?_) (fun zc8 => ?_)
          · have hd := g_t hd zc8
            refine v_loc [0] rfl ?_
            exact v_T_signAt_51 u zy4 hd
          · have hd := g_f hd zc8
            refine v_iload_n dX4_signAt_43 rfl ?_
            refine v_bipush dX4_signAt_44 bp_122 ?_
            refine v_icmp_gt (tgt := 51) dX4_signAt_46 (by decide) (fun zc11 => ?_) (fun zc11 => ?_)
            · have hd := g_t hd zc11
              refine v_loc [0] rfl ?_
              exact v_T_signAt_51 u zy4 hd
            · have hd := g_f hd zc11
              refine v_iconst dX4_signAt_49 ic_1 ?_
              obtain rfl := Option.some.inj hd
              exact v_iretE dX4_signAt_50 rfl rfl rfl rfl
        · have hd := g_t hd zc7
          refine v_iconst dX4_signAt_35 ic_3 ?_
          obtain rfl := Option.some.inj hd
          exact v_iretE dX4_signAt_36 rfl rfl rfl rfl
      · have hd := g_t hd zc6
        refine v_iconst dX4_signAt_27 ic_5 ?_
        obtain rfl := Option.some.inj hd
        exact v_iretE dX4_signAt_28 rfl rfl rfl rfl
    · have hd := g_f hd zc2
      refine v_iconst dX4_signAt_12 ic_0 ?_
      obtain rfl := Option.some.inj hd
      exact v_iretE dX4_signAt_13 rfl rfl rfl rfl
theorem m_T_signAt (u : (Nat → Nat → Int32)) (a1 : Int32) {r : Int32} (hd : d_T_signAt u a1 = some r) : Mt yX4_signAt cX4_signAt 3 (some .int) (rm 0) [.ref 0, .int a1] (h_T u) (ab_eq (some (.int r)) (h_T u)) := Mt.of (by decide +kernel) (fun _ _ _ => trivial) (Nat.le_of_ble_eq_true rfl) (v_T_signAt u a1 hd)

def d_T_takeToken_115  (u : (Nat → Nat → Int32)) (x1 : Int32) : Option (Int32 × (Nat → Nat → Int32)) := if x1 = (2 : Int32) then (if ((u 0 1) - (u 0 3)) ≤ (2 : Int32) then (some (x1, u)) else (some ((4 : Int32), u))) else (some (x1, u))
set_option maxRecDepth 100000 in
set_option maxHeartbeats 4000000 in
theorem v_T_takeToken_115  {r : Int32 × (Nat → Nat → Int32)}  (u : (Nat → Nat → Int32)) (x1 : Int32) (hd : d_T_takeToken_115  u x1 = some r) : Vd RX4 "takeToken" cX4_takeToken 2 (some .int) (rm 1) (ab_eq (some (.int r.1)) (h_T r.2)) 0 0 0 0 115 [(0, .ref 0), (1, .int x1)] [] (h_T u) := by
  unfold d_T_takeToken_115 at hd
  refine v_iload_n dX4_takeToken_115 rfl ?_
  refine v_iconst dX4_takeToken_116 ic_2 ?_
  refine v_icmp_ne (tgt := 137) dX4_takeToken_117 (by decide) (fun zc11 => ?_) (fun zc11 => ?_)
  · have hd := g_f hd zc11
    refine v_iload_n dX4_takeToken_137 rfl ?_
    obtain rfl := Option.some.inj hd
    exact v_iretE dX4_takeToken_138 rfl rfl rfl rfl
  · have hd := g_t hd zc11
    refine v_aload_n dX4_takeToken_120 rfl ?_
    refine v_get (v := .int (u 0 1)) dX4_takeToken_121 fl_X4_19 rfl rfl ?_
    refine v_aload_n dX4_takeToken_124 rfl ?_
    refine v_get (v := .int (u 0 3)) dX4_takeToken_125 fl_X4_22 rfl rfl ?_
    refine v_isub dX4_takeToken_128 ?_
    refine v_iconst dX4_takeToken_129 ic_2 ?_
    refine v_icmp_le (tgt := 137) dX4_takeToken_130 (by decide) (fun zc12 => ?_) (fun zc12 => ?_)
    · have hd := g_t hd zc12
      refine v_iload_n dX4_takeToken_137 rfl ?_
      obtain rfl := Option.some.inj hd
      exact v_iretE dX4_takeToken_138 rfl rfl rfl rfl
    · have hd := g_f hd zc12
      refine v_iconst dX4_takeToken_133 ic_4 ?_
      refine v_goto (tgt := 138) dX4_takeToken_134 (by decide) ?_
      obtain rfl := Option.some.inj hd
      exact v_iretE dX4_takeToken_138 rfl rfl rfl rfl

def d_T_takeToken_79  : Nat → (Nat → Nat → Int32) → Int32 → Option (Int32 × (Nat → Nat → Int32))
  | 0, _, _ => none
  | f + 1, u, x1 => if (u 0 2) ≤ (u 0 1) then (d_T_takeToken_115 u x1) else ((d_T_signAt u (u 0 1)).bind fun zr13 => if zr13 = x1 then (dl ((u 0 1) + (1 : Int32)) fun zy16 => d_T_takeToken_79 f (pw u 0 1 zy16) x1) else (d_T_takeToken_115 u x1))
set_option maxRecDepth 100000 in
set_option maxHeartbeats 4000000 in
theorem v_T_takeToken_79  {r : Int32 × (Nat → Nat → Int32)}  : ∀ (f : Nat) (u : (Nat → Nat → Int32)) (x1 : Int32), d_T_takeToken_79  f u x1 = some r → Vd RX4 "takeToken" cX4_takeToken 2 (some .int) (rm 1) (ab_eq (some (.int r.1)) (h_T r.2)) 0 0 0 0 79 [(0, .ref 0), (1, .int x1)] [] (h_T u) := by
  intro f
  induction f with
  | zero =>
    intro u x1 hd
    rw [d_T_takeToken_79] at hd
    cases hd
  | succ f ih =>
    intro u x1 hd
    rw [d_T_takeToken_79] at hd
    refine v_aload_n dX4_takeToken_79 rfl ?_
    refine v_get (v := .int (u 0 1)) dX4_takeToken_80 fl_X4_19 rfl rfl ?_
    refine v_aload_n dX4_takeToken_83 rfl ?_
    refine v_get (v := .int (u 0 2)) dX4_takeToken_84 fl_X4_15 rfl rfl ?_
    refine v_icmp_ge (tgt := 115) dX4_takeToken_87 (by decide) (fun zc10 => ?_) (fun zc10 => ?_)
    · have hd := g_t hd zc10
      exact v_T_takeToken_115 u x1 hd
    · have hd := g_f hd zc10
      refine v_aload_n dX4_takeToken_90 rfl ?_
      refine v_aload_n dX4_takeToken_91 rfl ?_
      refine v_get (v := .int (u 0 1)) dX4_takeToken_92 fl_X4_19 rfl rfl ?_
      obtain ⟨zr13, zh14, hd⟩ := g_bind hd
      refine v_cI (dy := 0) (st := []) (st2 := [.int zr13]) dX4_takeToken_95 mv_X4_25 (m_T_signAt u (u 0 1) zh14) rfl rfl rfl rfl rfl (by decide) (by decide) rfl rfl ?_
      refine v_iload_n dX4_takeToken_98 rfl ?_
      refine v_icmp_ne (tgt := 115) dX4_takeToken_99 (by decide) (fun zc15 => ?_) (fun zc15 => ?_)
      · have hd := g_f hd zc15
        exact v_T_takeToken_115 u x1 hd
      · have hd := g_t hd zc15
        refine v_aload_n dX4_takeToken_102 rfl ?_
        refine v_dup dX4_takeToken_103 rfl ?_
        refine v_get (v := .int (u 0 1)) dX4_takeToken_104 fl_X4_19 rfl rfl ?_
        refine v_iconst dX4_takeToken_107 ic_1 ?_
        refine v_iadd dX4_takeToken_108 ?_
        refine v_topi (fun zy16 ze17 => ?_)
        have hd := dl_n hd zy16 ze17
        refine v_pti (h2 := (h_T (pw u 0 1 zy16))) dX4_takeToken_109 fl_X4_19 rfl (Nat.le_of_ble_eq_true rfl) rfl ?_
        refine v_goto (tgt := 79) dX4_takeToken_112 (by decide) ?_
        exact ih (pw u 0 1 zy16) x1 hd

def d_T_takeToken_36  (u : (Nat → Nat → Int32)) : Option (Int32 × (Nat → Nat → Int32)) := dl (u 0 1) fun zy2 => (d_T_signAt (pw u 0 3 zy2) zy2).bind fun zr4 => if zr4 = 0 then (some ((0 : Int32), (pw u 0 3 zy2))) else (dl ((u 0 1) + (1 : Int32)) fun zy7 => if zr4 = (1 : Int32) then (d_T_takeToken_79 FU (pw (pw u 0 3 zy2) 0 1 zy7) zr4) else (if zr4 = (2 : Int32) then (d_T_takeToken_79 FU (pw (pw u 0 3 zy2) 0 1 zy7) zr4) else (d_T_takeToken_115 (pw (pw u 0 3 zy2) 0 1 zy7) zr4)))
set_option maxRecDepth 100000 in
set_option maxHeartbeats 4000000 in
theorem v_T_takeToken_36  {r : Int32 × (Nat → Nat → Int32)}  (u : (Nat → Nat → Int32)) (hd : d_T_takeToken_36  u = some r) : Vd RX4 "takeToken" cX4_takeToken 2 (some .int) (rm 1) (ab_eq (some (.int r.1)) (h_T r.2)) 0 0 0 0 36 [(0, .ref 0)] [] (h_T u) := by
  unfold d_T_takeToken_36 at hd
  refine v_aload_n dX4_takeToken_36 rfl ?_
  refine v_aload_n dX4_takeToken_37 rfl ?_
  refine v_get (v := .int (u 0 1)) dX4_takeToken_38 fl_X4_19 rfl rfl ?_
  refine v_topi (fun zy2 ze3 => ?_)
  have hd := dl_n hd zy2 ze3
  refine v_pti (h2 := (h_T (pw u 0 3 zy2))) dX4_takeToken_41 fl_X4_22 rfl (Nat.le_of_ble_eq_true rfl) rfl ?_
  refine v_aload_n dX4_takeToken_44 rfl ?_
  refine v_aload_n dX4_takeToken_45 rfl ?_
  refine v_get (v := .int zy2) dX4_takeToken_46 fl_X4_22 rfl rfl ?_
  obtain ⟨zr4, zh5, hd⟩ := g_bind hd
  refine v_cI (dy := 0) (st := []) (st2 := [.int zr4]) dX4_takeToken_49 mv_X4_25 (m_T_signAt (pw u 0 3 zy2) zy2 zh5) rfl rfl rfl rfl rfl (by decide) (by decide) rfl rfl ?_
  refine v_istore_n (i := 1) (L2 := [(1, .int zr4), (0, .ref 0)]) dX4_takeToken_52 rfl (Nat.le_of_ble_eq_true rfl) rfl ?_
  refine v_iload_n dX4_takeToken_53 rfl ?_
  refine v_if_ne (tgt := 59) dX4_takeToken_54 (by decide) (fun zc6 => ?_) (fun zc6 => ?_)
  · have hd := g_f hd zc6
    refine v_aload_n dX4_takeToken_59 rfl ?_
    refine v_dup dX4_takeToken_60 rfl ?_
    refine v_get (v := .int (u 0 1)) dX4_takeToken_61 fl_X4_19 rfl rfl ?_
    refine v_iconst dX4_takeToken_64 ic_1 ?_
    refine v_iadd dX4_takeToken_65 ?_
    refine v_topi (fun zy7 ze8 => ?_)
    have hd := dl_n hd zy7 ze8
    refine v_pti (h2 := (h_T (pw (pw u 0 3 zy2) 0 1 zy7))) dX4_takeToken_66 fl_X4_19 rfl (Nat.le_of_ble_eq_true rfl) rfl ?_
    refine v_iload_n dX4_takeToken_69 rfl ?_
    refine v_iconst dX4_takeToken_70 ic_1 ?_
    refine v_icmp_eq (tgt := 79) dX4_takeToken_71 (by decide) (fun zc9 => ?_) (fun zc9 => ?_)
    · have hd := g_t hd zc9
      refine v_loc [1, 0] rfl ?_
      exact v_T_takeToken_79 FU (pw (pw u 0 3 zy2) 0 1 zy7) zr4 hd
    · have hd := g_f hd zc9
      refine v_iload_n dX4_takeToken_74 rfl ?_
      refine v_iconst dX4_takeToken_75 ic_2 ?_
      refine v_icmp_ne (tgt := 115) dX4_takeToken_76 (by decide) (fun zc18 => ?_) (fun zc18 => ?_)
      · have hd := g_f hd zc18
        refine v_loc [1, 0] rfl ?_
        exact v_T_takeToken_115 (pw (pw u 0 3 zy2) 0 1 zy7) zr4 hd
      · have hd := g_t hd zc18
        refine v_loc [1, 0] rfl ?_
        exact v_T_takeToken_79 FU (pw (pw u 0 3 zy2) 0 1 zy7) zr4 hd
  · have hd := g_t hd zc6
    refine v_iconst dX4_takeToken_57 ic_0 ?_
    obtain rfl := Option.some.inj hd
    exact v_iretE dX4_takeToken_58 rfl rfl rfl rfl

def d_T_takeToken_0  : Nat → (Nat → Nat → Int32) → Option (Int32 × (Nat → Nat → Int32))
  | 0, _ => none
  | f + 1, u => if (u 0 2) ≤ (u 0 1) then (d_T_takeToken_36 u) else ((d_T_signAt u (u 0 1)).bind fun zr25 => if zr25 = (5 : Int32) then (dl ((u 0 1) + (1 : Int32)) fun zy28 => d_T_takeToken_0 f (pw u 0 1 zy28)) else (d_T_takeToken_36 u))
set_option maxRecDepth 100000 in
set_option maxHeartbeats 4000000 in
theorem v_T_takeToken_0  {r : Int32 × (Nat → Nat → Int32)}  : ∀ (f : Nat) (u : (Nat → Nat → Int32)), d_T_takeToken_0  f u = some r → Vd RX4 "takeToken" cX4_takeToken 2 (some .int) (rm 1) (ab_eq (some (.int r.1)) (h_T r.2)) 0 0 0 0 0 [(0, .ref 0)] [] (h_T u) := by
  intro f
  induction f with
  | zero =>
    intro u hd
    rw [d_T_takeToken_0] at hd
    cases hd
  | succ f ih =>
    intro u hd
    rw [d_T_takeToken_0] at hd
    refine v_aload_n dX4_takeToken_0 rfl ?_
    refine v_get (v := .int (u 0 1)) dX4_takeToken_1 fl_X4_19 rfl rfl ?_
    refine v_aload_n dX4_takeToken_4 rfl ?_
    refine v_get (v := .int (u 0 2)) dX4_takeToken_5 fl_X4_15 rfl rfl ?_
    refine v_icmp_ge (tgt := 36) dX4_takeToken_8 (by decide) (fun zc24 => ?_) (fun zc24 => ?_)
    · have hd := g_t hd zc24
      exact v_T_takeToken_36 u hd
    · have hd := g_f hd zc24
      refine v_aload_n dX4_takeToken_11 rfl ?_
      refine v_aload_n dX4_takeToken_12 rfl ?_
      refine v_get (v := .int (u 0 1)) dX4_takeToken_13 fl_X4_19 rfl rfl ?_
      obtain ⟨zr25, zh26, hd⟩ := g_bind hd
      refine v_cI (dy := 0) (st := []) (st2 := [.int zr25]) dX4_takeToken_16 mv_X4_25 (m_T_signAt u (u 0 1) zh26) rfl rfl rfl rfl rfl (by decide) (by decide) rfl rfl ?_
      refine v_iconst dX4_takeToken_19 ic_5 ?_
      refine v_icmp_ne (tgt := 36) dX4_takeToken_20 (by decide) (fun zc27 => ?_) (fun zc27 => ?_)
      · have hd := g_f hd zc27
        exact v_T_takeToken_36 u hd
      · have hd := g_t hd zc27
        refine v_aload_n dX4_takeToken_23 rfl ?_
        refine v_dup dX4_takeToken_24 rfl ?_
        refine v_get (v := .int (u 0 1)) dX4_takeToken_25 fl_X4_19 rfl rfl ?_
        refine v_iconst dX4_takeToken_28 ic_1 ?_
        refine v_iadd dX4_takeToken_29 ?_
        refine v_topi (fun zy28 ze29 => ?_)
        have hd := dl_n hd zy28 ze29
        refine v_pti (h2 := (h_T (pw u 0 1 zy28))) dX4_takeToken_30 fl_X4_19 rfl (Nat.le_of_ble_eq_true rfl) rfl ?_
        refine v_goto (tgt := 0) dX4_takeToken_33 (by decide) ?_
        exact ih (pw u 0 1 zy28) hd
def d_T_takeToken (u : (Nat → Nat → Int32)) : Option (Int32 × (Nat → Nat → Int32)) := if (u 0 2) ≤ (u 0 1) then (d_T_takeToken_36 u) else ((d_T_signAt u (u 0 1)).bind fun zr19 => if zr19 = (5 : Int32) then (dl ((u 0 1) + (1 : Int32)) fun zy22 => d_T_takeToken_0 FU (pw u 0 1 zy22)) else (d_T_takeToken_36 u))
set_option maxRecDepth 100000 in
set_option maxHeartbeats 4000000 in
theorem v_T_takeToken (u : (Nat → Nat → Int32)) {r : Int32 × (Nat → Nat → Int32)} (hd : d_T_takeToken u = some r) : Vd RX4 "takeToken" cX4_takeToken 2 (some .int) (rm 1) (ab_eq (some (.int r.1)) (h_T r.2)) 0 0 0 0 0 [(0, .ref 0)] [] (h_T u) := by
  unfold d_T_takeToken at hd
  refine v_aload_n dX4_takeToken_0 rfl ?_
  refine v_get (v := .int (u 0 1)) dX4_takeToken_1 fl_X4_19 rfl rfl ?_
  refine v_aload_n dX4_takeToken_4 rfl ?_
  refine v_get (v := .int (u 0 2)) dX4_takeToken_5 fl_X4_15 rfl rfl ?_
  refine v_icmp_ge (tgt := 36) dX4_takeToken_8 (by decide) (fun zc1 => ?_) (fun zc1 => ?_)
  · have hd := g_t hd zc1
    exact v_T_takeToken_36 u hd
  · have hd := g_f hd zc1
    refine v_aload_n dX4_takeToken_11 rfl ?_
    refine v_aload_n dX4_takeToken_12 rfl ?_
    refine v_get (v := .int (u 0 1)) dX4_takeToken_13 fl_X4_19 rfl rfl ?_
    obtain ⟨zr19, zh20, hd⟩ := g_bind hd
    refine v_cI (dy := 0) (st := []) (st2 := [.int zr19]) dX4_takeToken_16 mv_X4_25 (m_T_signAt u (u 0 1) zh20) rfl rfl rfl rfl rfl (by decide) (by decide) rfl rfl ?_
    refine v_iconst dX4_takeToken_19 ic_5 ?_
    refine v_icmp_ne (tgt := 36) dX4_takeToken_20 (by decide) (fun zc21 => ?_) (fun zc21 => ?_)
    · have hd := g_f hd zc21
      exact v_T_takeToken_36 u hd
    · have hd := g_t hd zc21
      refine v_aload_n dX4_takeToken_23 rfl ?_
      refine v_dup dX4_takeToken_24 rfl ?_
      refine v_get (v := .int (u 0 1)) dX4_takeToken_25 fl_X4_19 rfl rfl ?_
      refine v_iconst dX4_takeToken_28 ic_1 ?_
      refine v_iadd dX4_takeToken_29 ?_
      refine v_topi (fun zy22 ze23 => ?_)
      have hd := dl_n hd zy22 ze23
      refine v_pti (h2 := (h_T (pw u 0 1 zy22))) dX4_takeToken_30 fl_X4_19 rfl (Nat.le_of_ble_eq_true rfl) rfl ?_
      refine v_goto (tgt := 0) dX4_takeToken_33 (by decide) ?_
      exact v_T_takeToken_0 FU (pw u 0 1 zy22) hd
theorem m_T_takeToken (u : (Nat → Nat → Int32)) {r : Int32 × (Nat → Nat → Int32)} (hd : d_T_takeToken u = some r) : Mt yX4_takeToken cX4_takeToken 2 (some .int) (rm 1) [.ref 0] (h_T u) (ab_eq (some (.int r.1)) (h_T r.2)) := Mt.of (by decide +kernel) (fun _ _ _ => trivial) (Nat.le_of_ble_eq_true rfl) (v_T_takeToken u hd)

def d_T_nameIs_23 (a1 : Nat) : Nat → (Nat → Nat → Int32) → Int32 → Option Int32
  | 0, _, _ => none
  | f + 1, u, x2 => if (u 0 1) ≤ x2 then (some (1 : Int32)) else (if gi x2 160 = true then if gi (x2 - (u 0 3)) (ab_len.getD a1 0) = true then if ((u 1) x2.toNatClampNeg) = (ab_ch a1 (x2 - (u 0 3)).toNatClampNeg) then (dl (x2 + (1 : Int32)) fun zy8 => d_T_nameIs_23 a1 f u zy8) else (some (0 : Int32)) else none else none)
set_option maxRecDepth 100000 in
set_option maxHeartbeats 4000000 in
theorem v_T_nameIs_23 {a1 : Nat} (ha1 : a1 < 7) {r : Int32}  : ∀ (f : Nat) (u : (Nat → Nat → Int32)) (x2 : Int32), d_T_nameIs_23 a1 f u x2 = some r → Vd RX4 "nameIs" cX4_nameIs 3 (some .boolean) (rm 5) (ab_eq (some (.int r)) (h_T u)) 0 0 0 0 23 [(0, .ref 0), (1, .retAddr a1), (2, .int x2)] [] (h_T u) := by
  intro f
  induction f with
  | zero =>
    intro u x2 hd
    rw [d_T_nameIs_23] at hd
    cases hd
  | succ f ih =>
    intro u x2 hd
    rw [d_T_nameIs_23] at hd
    refine v_iload_n dX4_nameIs_23 rfl ?_
    refine v_aload_n dX4_nameIs_24 rfl ?_
    refine v_get (v := .int (u 0 1)) dX4_nameIs_25 fl_X4_19 rfl rfl ?_
    refine v_icmp_ge (tgt := 58) dX4_nameIs_28 (by decide) (fun zc4 => ?_) (fun zc4 => ?_)
    · have hd := g_t hd zc4
      refine v_iconst dX4_nameIs_58 ic_1 ?_
      obtain rfl := Option.some.inj hd
      exact v_iretE dX4_nameIs_59 rfl rfl rfl rfl
    · have hd := g_f hd zc4
      refine v_aload_n dX4_nameIs_31 rfl ?_
      refine v_get (v := .ref 1) dX4_nameIs_32 fl_X4_9 rfl rfl ?_
      refine v_iload_n dX4_nameIs_35 rfl ?_
      obtain ⟨zg5, hd⟩ := g_b hd
      refine v_bald (f := (u 1)) dX4_nameIs_36 rfl (gi_in zg5) ?_
      refine v_sload_n dX4_nameIs_37 rfl (Or.inl ha1) ?_
      refine v_iload_n dX4_nameIs_38 rfl ?_
      refine v_aload_n dX4_nameIs_39 rfl ?_
      refine v_get (v := .int (u 0 3)) dX4_nameIs_40 fl_X4_22 rfl rfl ?_
      refine v_isub dX4_nameIs_43 ?_
      obtain ⟨zg6, hd⟩ := g_b hd
      refine v_cSchar dX4_nameIs_44 mv_X4_34 ha1 (gi_in zg6) (by decide) rfl ?_
      refine v_icmp_eq (tgt := 52) dX4_nameIs_47 (by decide) (fun zc7 => ?_) (fun zc7 => ?_)
      · have hd := g_t hd zc7
        obtain ⟨zy8, ze9⟩ : ∃ z : Int32, z = (x2 + (1 : Int32)) := ⟨_, rfl⟩
        have hd := dl_n hd zy8 ze9
        refine v_iinc (v := zy8) (L2 := [(2, .int zy8), (0, .ref 0), (1, .retAddr a1)]) dX4_nameIs_52 rfl (by rw [ic_1]; exact ze9.symm) (Nat.le_of_ble_eq_true rfl) rfl ?_
        refine v_goto (tgt := 23) dX4_nameIs_55 (by decide) ?_
        refine v_loc [1, 2, 0] rfl ?_
        exact ih u zy8 hd
      · have hd := g_f hd zc7
        refine v_iconst dX4_nameIs_50 ic_0 ?_
        obtain rfl := Option.some.inj hd
        exact v_iretE dX4_nameIs_51 rfl rfl rfl rfl
def d_T_nameIs (u : (Nat → Nat → Int32)) (a1 : Nat) : Option Int32 := if ((u 0 1) - (u 0 3)) = (Int32.ofNat (ab_len.getD a1 0)) then (dl (u 0 3) fun zy2 => d_T_nameIs_23 a1 FU u zy2) else (some (0 : Int32))
set_option maxRecDepth 100000 in
set_option maxHeartbeats 4000000 in
theorem v_T_nameIs (u : (Nat → Nat → Int32)) (a1 : Nat) (ha1 : a1 < 7) {r : Int32} (hd : d_T_nameIs u a1 = some r) : Vd RX4 "nameIs" cX4_nameIs 3 (some .boolean) (rm 5) (ab_eq (some (.int r)) (h_T u)) 0 0 0 0 0 [(0, .ref 0), (1, .retAddr a1)] [] (h_T u) := by
  unfold d_T_nameIs at hd
  refine v_aload_n dX4_nameIs_0 rfl ?_
  refine v_get (v := .int (u 0 1)) dX4_nameIs_1 fl_X4_19 rfl rfl ?_
  refine v_aload_n dX4_nameIs_4 rfl ?_
  refine v_get (v := .int (u 0 3)) dX4_nameIs_5 fl_X4_22 rfl rfl ?_
  refine v_isub dX4_nameIs_8 ?_
  refine v_sload_n dX4_nameIs_9 rfl (Or.inl ha1) ?_
  refine v_cSlen dX4_nameIs_10 mv_X4_29 ha1 (by decide) rfl ?_
  refine v_icmp_eq (tgt := 18) dX4_nameIs_13 (by decide) (fun zc1 => ?_) (fun zc1 => ?_)
  · have hd := g_t hd zc1
    refine v_aload_n dX4_nameIs_18 rfl ?_
    refine v_get (v := .int (u 0 3)) dX4_nameIs_19 fl_X4_22 rfl rfl ?_
    refine v_topi (fun zy2 ze3 => ?_)
    have hd := dl_n hd zy2 ze3
    refine v_istore_n (i := 2) (L2 := [(2, .int zy2), (0, .ref 0), (1, .retAddr a1)]) dX4_nameIs_22 rfl (Nat.le_of_ble_eq_true rfl) rfl ?_
    refine v_loc [1, 2, 0] rfl ?_
    exact v_T_nameIs_23 ha1 FU u zy2 hd
  · have hd := g_f hd zc1
    refine v_iconst dX4_nameIs_16 ic_0 ?_
    obtain rfl := Option.some.inj hd
    exact v_iretE dX4_nameIs_17 rfl rfl rfl rfl
theorem m_T_nameIs (u : (Nat → Nat → Int32)) (a1 : Nat) (ha1 : a1 < 7) {r : Int32} (hd : d_T_nameIs u a1 = some r) : Mt yX4_nameIs cX4_nameIs 3 (some .boolean) (rm 5) [.ref 0, .retAddr a1] (h_T u) (ab_eq (some (.int r)) (h_T u)) := Mt.of (by decide +kernel) (fun _ _ _ => trivial) (Nat.le_of_ble_eq_true rfl) (v_T_nameIs u a1 ha1 hd)

def d_T_number_7  : Nat → (Nat → Nat → Int32) → Int32 → Int32 → Option Int32
  | 0, _, _, _ => none
  | f + 1, u, x1, x2 => if (u 0 1) ≤ x2 then (some x1) else (if gi x2 160 = true then dl ((((10 : Int32) * x1) + ((u 1) x2.toNatClampNeg)) - (48 : Int32)) fun zy5 => dl (x2 + (1 : Int32)) fun zy7 => d_T_number_7 f u zy5 zy7 else none)
set_option maxRecDepth 100000 in
set_option maxHeartbeats 4000000 in
theorem v_T_number_7  {r : Int32}  : ∀ (f : Nat) (u : (Nat → Nat → Int32)) (x1 : Int32) (x2 : Int32), d_T_number_7  f u x1 x2 = some r → Vd RX4 "number" cX4_number 3 (some .int) (rm 0) (ab_eq (some (.int r)) (h_T u)) 0 0 0 0 7 [(0, .ref 0), (1, .int x1), (2, .int x2)] [] (h_T u) := by
  intro f
  induction f with
  | zero =>
    intro u x1 x2 hd
    rw [d_T_number_7] at hd
    cases hd
  | succ f ih =>
    intro u x1 x2 hd
    rw [d_T_number_7] at hd
    refine v_iload_n dX4_number_7 rfl ?_
    refine v_aload_n dX4_number_8 rfl ?_
    refine v_get (v := .int (u 0 1)) dX4_number_9 fl_X4_19 rfl rfl ?_
    refine v_icmp_ge (tgt := 36) dX4_number_12 (by decide) (fun zc3 => ?_) (fun zc3 => ?_)
    · have hd := g_t hd zc3
      refine v_iload_n dX4_number_36 rfl ?_
      obtain rfl := Option.some.inj hd
      exact v_iretE dX4_number_37 rfl rfl rfl rfl
    · have hd := g_f hd zc3
      refine v_bipush dX4_number_15 bp_10 ?_
      refine v_iload_n dX4_number_17 rfl ?_
      refine v_imul dX4_number_18 ?_
      refine v_aload_n dX4_number_19 rfl ?_
      refine v_get (v := .ref 1) dX4_number_20 fl_X4_9 rfl rfl ?_
      refine v_iload_n dX4_number_23 rfl ?_
      obtain ⟨zg4, hd⟩ := g_b hd
      refine v_bald (f := (u 1)) dX4_number_24 rfl (gi_in zg4) ?_
      refine v_iadd dX4_number_25 ?_
      refine v_bipush dX4_number_26 bp_48 ?_
      refine v_isub dX4_number_28 ?_
      refine v_topi (fun zy5 ze6 => ?_)
      have hd := dl_n hd zy5 ze6
      refine v_istore_n (i := 1) (L2 := [(1, .int zy5), (0, .ref 0), (2, .int x2)]) dX4_number_29 rfl (Nat.le_of_ble_eq_true rfl) rfl ?_
      obtain ⟨zy7, ze8⟩ : ∃ z : Int32, z = (x2 + (1 : Int32)) := ⟨_, rfl⟩
      have hd := dl_n hd zy7 ze8
      refine v_iinc (v := zy7) (L2 := [(2, .int zy7), (1, .int zy5), (0, .ref 0)]) dX4_number_30 rfl (by rw [ic_1]; exact ze8.symm) (Nat.le_of_ble_eq_true rfl) rfl ?_
      refine v_goto (tgt := 7) dX4_number_33 (by decide) ?_
      refine v_loc [2, 1, 0] rfl ?_
      exact ih u zy5 zy7 hd
def d_T_number (u : (Nat → Nat → Int32)) : Option Int32 := dl (u 0 3) fun zy1 => d_T_number_7 FU u (0 : Int32) zy1
set_option maxRecDepth 100000 in
set_option maxHeartbeats 4000000 in
theorem v_T_number (u : (Nat → Nat → Int32)) {r : Int32} (hd : d_T_number u = some r) : Vd RX4 "number" cX4_number 3 (some .int) (rm 0) (ab_eq (some (.int r)) (h_T u)) 0 0 0 0 0 [(0, .ref 0)] [] (h_T u) := by
  unfold d_T_number at hd
  refine v_iconst dX4_number_0 ic_0 ?_
  refine v_istore_n (i := 1) (L2 := [(1, .int (0 : Int32)), (0, .ref 0)]) dX4_number_1 rfl (Nat.le_of_ble_eq_true rfl) rfl ?_
  refine v_aload_n dX4_number_2 rfl ?_
  refine v_get (v := .int (u 0 3)) dX4_number_3 fl_X4_22 rfl rfl ?_
  refine v_topi (fun zy1 ze2 => ?_)
  have hd := dl_n hd zy1 ze2
  refine v_istore_n (i := 2) (L2 := [(2, .int zy1), (1, .int (0 : Int32)), (0, .ref 0)]) dX4_number_6 rfl (Nat.le_of_ble_eq_true rfl) rfl ?_
  refine v_loc [2, 1, 0] rfl ?_
  exact v_T_number_7 FU u (0 : Int32) zy1 hd
theorem m_T_number (u : (Nat → Nat → Int32)) {r : Int32} (hd : d_T_number u = some r) : Mt yX4_number cX4_number 3 (some .int) (rm 0) [.ref 0] (h_T u) (ab_eq (some (.int r)) (h_T u)) := Mt.of (by decide +kernel) (fun _ _ _ => trivial) (Nat.le_of_ble_eq_true rfl) (v_T_number u hd)
