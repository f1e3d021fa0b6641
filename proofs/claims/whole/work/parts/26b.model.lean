
def d_M_settles_2  : Nat → (Nat → Nat → Int32) → Int32 → Option ((Nat → Nat → Int32))
  | 0, _, _ => none
  | f + 1, u, x1 => if (41 : Int32) ≤ x1 then (some u) else (if gi x1 41 = true then if gi x1 123 = true then dl ((u 2) x1.toNatClampNeg) fun zy4 => dl (pw u 1 x1.toNatClampNeg zy4) fun zu6 => dl (x1 + (1 : Int32)) fun zy8 => d_M_settles_2 f zu6 zy8 else none else none)
set_option maxRecDepth 100000 in
set_option maxHeartbeats 4000000 in
theorem v_M_settles_2 (w : Nat → Int64) {r : (Nat → Nat → Int32)}  : ∀ (f : Nat) (u : (Nat → Nat → Int32)) (x1 : Int32), d_M_settles_2  f u x1 = some r → Vd RX7 "settles" cX7_settles 2 none (rm 0) (ab_eq none (h_M r w)) 0 0 0 0 2 [(0, .ref 0), (1, .int x1)] [] (h_M u w) := by
  intro f
  induction f with
  | zero =>
    intro u x1 hd
    rw [d_M_settles_2] at hd
    cases hd
  | succ f ih =>
    intro u x1 hd
    rw [d_M_settles_2] at hd
    refine v_iload_n dX7_settles_2 rfl ?_
    refine v_bipush dX7_settles_3 bp_41 ?_
    refine v_icmp_ge (tgt := 26) dX7_settles_5 (by decide) (fun zc1 => ?_) (fun zc1 => ?_)
    · have hd := g_t hd zc1
      obtain rfl := Option.some.inj hd
      exact v_vretE dX7_settles_26 rfl rfl rfl
    · have hd := g_f hd zc1
      refine v_aload_n dX7_settles_8 rfl ?_
      refine v_get (v := .ref 1) dX7_settles_9 fl_X7_7 rfl rfl ?_
      refine v_iload_n dX7_settles_12 rfl ?_
      refine v_aload_n dX7_settles_13 rfl ?_
      refine v_get (v := .ref 2) dX7_settles_14 fl_X7_13 rfl rfl ?_
      refine v_iload_n dX7_settles_17 rfl ?_
      obtain ⟨zg2, hd⟩ := g_b hd
      refine v_iald (f := (u 2)) dX7_settles_18 rfl (gi_in zg2) ?_
      obtain ⟨zg3, hd⟩ := g_b hd
      refine v_topi (fun zy4 ze5 => ?_)
      have hd := dl_n hd zy4 ze5
      refine v_ist (f := (u 1)) (h2 := (h_M (pw u 1 x1.toNatClampNeg zy4) w)) dX7_settles_19 rfl (gi_in zg3) rfl ?_
      refine v_nmu (F := fun z => (h_M z w)) (e := (pw u 1 x1.toNatClampNeg zy4)) (fun zu6 ze7 => ?_)
      have hd := dl_n hd zu6 ze7
      obtain ⟨zy8, ze9⟩ : ∃ z : Int32, z = (x1 + (1 : Int32)) := ⟨_, rfl⟩
      have hd := dl_n hd zy8 ze9
      refine v_iinc (v := zy8) (L2 := [(1, .int zy8), (0, .ref 0)]) dX7_settles_20 rfl (by rw [ic_1]; exact ze9.symm) (Nat.le_of_ble_eq_true rfl) rfl ?_
      refine v_goto (tgt := 2) dX7_settles_23 (by decide) ?_
      refine v_loc [1, 0] rfl ?_
      exact ih zu6 zy8 hd
def d_M_settles (u : (Nat → Nat → Int32)) : Option ((Nat → Nat → Int32)) := d_M_settles_2 FU u (0 : Int32)
set_option maxRecDepth 100000 in
set_option maxHeartbeats 4000000 in
theorem v_M_settles (u : (Nat → Nat → Int32)) (w : Nat → Int64) {r : (Nat → Nat → Int32)} (hd : d_M_settles u = some r) : Vd RX7 "settles" cX7_settles 2 none (rm 0) (ab_eq none (h_M r w)) 0 0 0 0 0 [(0, .ref 0)] [] (h_M u w) := by
  unfold d_M_settles at hd
  refine v_iconst dX7_settles_0 ic_0 ?_
  refine v_istore_n (i := 1) (L2 := [(1, .int (0 : Int32)), (0, .ref 0)]) dX7_settles_1 rfl (Nat.le_of_ble_eq_true rfl) rfl ?_
  refine v_loc [1, 0] rfl ?_
  exact v_M_settles_2 w FU u (0 : Int32) hd
theorem m_M_settles (u : (Nat → Nat → Int32)) (w : Nat → Int64) {r : (Nat → Nat → Int32)} (hd : d_M_settles u = some r) : Mt yX7_settles cX7_settles 2 none (rm 0) [.ref 0] (h_M u w) (ab_eq none (h_M r w)) := Mt.of (by decide +kernel) (fun _ _ _ => trivial) (Nat.le_of_ble_eq_true rfl) (v_M_settles u w hd)
def d_M_burns (u : (Nat → Nat → Int32)) (a1 : Int32) (a2 : Int32) : Option (Int32 × (Nat → Nat → Int32)) := if gi ((5 : Int32) + a1) 41 = true then (d_P_lesser a2 ((u 2) ((5 : Int32) + a1).toNatClampNeg)).bind fun zr2 => if gi ((5 : Int32) + a1) 41 = true then if gi ((5 : Int32) + a1) 41 = true then dl (((u 2) ((5 : Int32) + a1).toNatClampNeg) - zr2) fun zy6 => dl (pw u 2 ((5 : Int32) + a1).toNatClampNeg zy6) fun zu8 => if gi ((10 : Int32) + a1) 41 = true then if gi ((10 : Int32) + a1) 41 = true then dl (((zu8 2) ((10 : Int32) + a1).toNatClampNeg) + zr2) fun zy12 => dl (pw zu8 2 ((10 : Int32) + a1).toNatClampNeg zy12) fun zu14 => dl (((zu14 2) (20 : Int32).toNatClampNeg) + zr2) fun zy16 => some (zr2, (pw zu14 2 (20 : Int32).toNatClampNeg zy16)) else none else none else none else none else none
set_option maxRecDepth 100000 in
set_option maxHeartbeats 4000000 in
theorem v_M_burns (u : (Nat → Nat → Int32)) (a1 : Int32) (a2 : Int32) (w : Nat → Int64) {r : Int32 × (Nat → Nat → Int32)} (hd : d_M_burns u a1 a2 = some r) : Vd RX7 "burns" cX7_burns 4 (some .int) (rm 1) (ab_eq (some (.int r.1)) (h_M r.2 w)) 0 0 0 0 0 [(0, .ref 0), (1, .int a1), (2, .int a2)] [] (h_M u w) := by
  unfold d_M_burns at hd
  refine v_iload_n dX7_burns_0 rfl ?_
  refine v_aload_n dX7_burns_1 rfl ?_
  refine v_get (v := .ref 2) dX7_burns_2 fl_X7_13 rfl rfl ?_
  refine v_iconst dX7_burns_5 ic_5 ?_
  refine v_iload_n dX7_burns_6 rfl ?_
  refine v_iadd dX7_burns_7 ?_
  obtain ⟨zg1, hd⟩ := g_b hd
  refine v_iald (f := (u 2)) dX7_burns_8 rfl (gi_in zg1) ?_
  obtain ⟨zr2, zh3, hd⟩ := g_bind hd
  refine v_cS (dy := 0) (st := []) (st2 := [.int zr2]) (h2 := (h_M u w)) [] dX7_burns_9 mz_X7_151 (m_P_lesser a2 ((u 2) ((5 : Int32) + a1).toNatClampNeg) zh3) rfl rfl rfl rfl rfl rfl (by decide) (by decide) rfl rfl rfl ?_
  refine v_istore_n (i := 3) (L2 := [(3, .int zr2), (0, .ref 0), (1, .int a1), (2, .int a2)]) dX7_burns_12 rfl (Nat.le_of_ble_eq_true rfl) rfl ?_
  refine v_aload_n dX7_burns_13 rfl ?_
  refine v_get (v := .ref 2) dX7_burns_14 fl_X7_13 rfl rfl ?_
  refine v_iconst dX7_burns_17 ic_5 ?_
  refine v_iload_n dX7_burns_18 rfl ?_
  refine v_iadd dX7_burns_19 ?_
  refine v_dup2 dX7_burns_20 rfl rfl ?_
  obtain ⟨zg4, hd⟩ := g_b hd
  refine v_iald (f := (u 2)) dX7_burns_21 rfl (gi_in zg4) ?_
  refine v_iload_n dX7_burns_22 rfl ?_
  refine v_isub dX7_burns_23 ?_
  obtain ⟨zg5, hd⟩ := g_b hd
  refine v_topi (fun zy6 ze7 => ?_)
  have hd := dl_n hd zy6 ze7
  refine v_ist (f := (u 2)) (h2 := (h_M (pw u 2 ((5 : Int32) + a1).toNatClampNeg zy6) w)) dX7_burns_24 rfl (gi_in zg5) rfl ?_
  refine v_nmu (F := fun z => (h_M z w)) (e := (pw u 2 ((5 : Int32) + a1).toNatClampNeg zy6)) (fun zu8 ze9 => ?_)
  have hd := dl_n hd zu8 ze9
  refine v_aload_n dX7_burns_25 rfl ?_
  refine v_get (v := .ref 2) dX7_burns_26 fl_X7_13 rfl rfl ?_
  refine v_bipush dX7_burns_29 bp_10 ?_
  refine v_iload_n dX7_burns_31 rfl ?_
  refine v_iadd dX7_burns_32 ?_
  refine v_dup2 dX7_burns_33 rfl rfl ?_
  obtain ⟨zg10, hd⟩ := g_b hd
  refine v_iald (f := (zu8 2)) dX7_burns_34 rfl (gi_in zg10) ?_
  refine v_iload_n dX7_burns_35 rfl ?_
  refine v_iadd dX7_burns_36 ?_
  obtain ⟨zg11, hd⟩ := g_b hd
  refine v_topi (fun zy12 ze13 => ?_)
  have hd := dl_n hd zy12 ze13
  refine v_ist (f := (zu8 2)) (h2 := (h_M (pw zu8 2 ((10 : Int32) + a1).toNatClampNeg zy12) w)) dX7_burns_37 rfl (gi_in zg11) rfl ?_
  refine v_nmu (F := fun z => (h_M z w)) (e := (pw zu8 2 ((10 : Int32) + a1).toNatClampNeg zy12)) (fun zu14 ze15 => ?_)
  have hd := dl_n hd zu14 ze15
  refine v_aload_n dX7_burns_38 rfl ?_
  refine v_get (v := .ref 2) dX7_burns_39 fl_X7_13 rfl rfl ?_
  refine v_bipush dX7_burns_42 bp_20 ?_
  refine v_dup2 dX7_burns_44 rfl rfl ?_
  refine v_iald (f := (zu14 2)) dX7_burns_45 rfl gl_20_41 ?_
  refine v_iload_n dX7_burns_46 rfl ?_
  refine v_iadd dX7_burns_47 ?_
  refine v_topi (fun zy16 ze17 => ?_)
  have hd := dl_n hd zy16 ze17
  refine v_ist (f := (zu14 2)) (h2 := (h_M (pw zu14 2 (20 : Int32).toNatClampNeg zy16) w)) dX7_burns_48 rfl gl_20_41 rfl ?_
  refine v_iload_n dX7_burns_49 rfl ?_
  obtain rfl := Option.some.inj hd
  exact v_iretE dX7_burns_50 rfl rfl rfl rfl
theorem m_M_burns (u : (Nat → Nat → Int32)) (a1 : Int32) (a2 : Int32) (w : Nat → Int64) {r : Int32 × (Nat → Nat → Int32)} (hd : d_M_burns u a1 a2 = some r) : Mt yX7_burns cX7_burns 4 (some .int) (rm 1) [.ref 0, .int a1, .int a2] (h_M u w) (ab_eq (some (.int r.1)) (h_M r.2 w)) := Mt.of (by decide +kernel) (fun _ _ _ => trivial) (Nat.le_of_ble_eq_true rfl) (v_M_burns u a1 a2 w hd)
def d_M_gives (u : (Nat → Nat → Int32)) (a1 : Int32) (a2 : Int32) : Option ((Nat → Nat → Int32)) := if gi ((5 : Int32) + a1) 41 = true then if gi ((5 : Int32) + a1) 41 = true then dl (((u 2) ((5 : Int32) + a1).toNatClampNeg) - a2) fun zy3 => dl (pw u 2 ((5 : Int32) + a1).toNatClampNeg zy3) fun zu5 => if gi ((10 : Int32) + a1) 41 = true then if gi ((10 : Int32) + a1) 41 = true then dl (((zu5 2) ((10 : Int32) + a1).toNatClampNeg) + a2) fun zy9 => dl (pw zu5 2 ((10 : Int32) + a1).toNatClampNeg zy9) fun zu11 => dl (((zu11 2) (21 : Int32).toNatClampNeg) + a2) fun zy13 => if ((upd (zu11 2) (21 : Int32).toNatClampNeg zy13) (16 : Int32).toNatClampNeg) ≤ a2 then (some (pw (pw zu11 2 (21 : Int32).toNatClampNeg zy13) 2 (16 : Int32).toNatClampNeg (0 : Int32))) else (dl (((upd (zu11 2) (21 : Int32).toNatClampNeg zy13) (16 : Int32).toNatClampNeg) - a2) fun zy16 => some (pw (pw zu11 2 (21 : Int32).toNatClampNeg zy13) 2 (16 : Int32).toNatClampNeg zy16)) else none else none else none else none
set_option maxRecDepth 100000 in
set_option maxHeartbeats 4000000 in
theorem v_M_gives (u : (Nat → Nat → Int32)) (a1 : Int32) (a2 : Int32) (w : Nat → Int64) {r : (Nat → Nat → Int32)} (hd : d_M_gives u a1 a2 = some r) : Vd RX7 "gives" cX7_gives 3 none (rm 0) (ab_eq none (h_M r w)) 0 0 0 0 0 [(0, .ref 0), (1, .int a1), (2, .int a2)] [] (h_M u w) := by
  unfold d_M_gives at hd
  refine v_aload_n dX7_gives_0 rfl ?_
  refine v_get (v := .ref 2) dX7_gives_1 fl_X7_13 rfl rfl ?_
  refine v_iconst dX7_gives_4 ic_5 ?_
  refine v_iload_n dX7_gives_5 rfl ?_
  refine v_iadd dX7_gives_6 ?_
  refine v_dup2 dX7_gives_7 rfl rfl ?_
  obtain ⟨zg1, hd⟩ := g_b hd
  refine v_iald (f := (u 2)) dX7_gives_8 rfl (gi_in zg1) ?_
  refine v_iload_n dX7_gives_9 rfl ?_
  refine v_isub dX7_gives_10 ?_
  obtain ⟨zg2, hd⟩ := g_b hd
  refine v_topi (fun zy3 ze4 => ?_)
  have hd := dl_n hd zy3 ze4
  refine v_ist (f := (u 2)) (h2 := (h_M (pw u 2 ((5 : Int32) + a1).toNatClampNeg zy3) w)) dX7_gives_11 rfl (gi_in zg2) rfl ?_
  refine v_nmu (F := fun z => (h_M z w)) (e := (pw u 2 ((5 : Int32) + a1).toNatClampNeg zy3)) (fun zu5 ze6 => ?_)
  have hd := dl_n hd zu5 ze6
  refine v_aload_n dX7_gives_12 rfl ?_
  refine v_get (v := .ref 2) dX7_gives_13 fl_X7_13 rfl rfl ?_
  refine v_bipush dX7_gives_16 bp_10 ?_
  refine v_iload_n dX7_gives_18 rfl ?_
  refine v_iadd dX7_gives_19 ?_
  refine v_dup2 dX7_gives_20 rfl rfl ?_
  obtain ⟨zg7, hd⟩ := g_b hd
  refine v_iald (f := (zu5 2)) dX7_gives_21 rfl (gi_in zg7) ?_
  refine v_iload_n dX7_gives_22 rfl ?_
  refine v_iadd dX7_gives_23 ?_
  obtain ⟨zg8, hd⟩ := g_b hd
  refine v_topi (fun zy9 ze10 => ?_)
  have hd := dl_n hd zy9 ze10
  refine v_ist (f := (zu5 2)) (h2 := (h_M (pw zu5 2 ((10 : Int32) + a1).toNatClampNeg zy9) w)) dX7_gives_24 rfl (gi_in zg8) rfl ?_
  refine v_nmu (F := fun z => (h_M z w)) (e := (pw zu5 2 ((10 : Int32) + a1).toNatClampNeg zy9)) (fun zu11 ze12 => ?_)
  have hd := dl_n hd zu11 ze12
  refine v_aload_n dX7_gives_25 rfl ?_
  refine v_get (v := .ref 2) dX7_gives_26 fl_X7_13 rfl rfl ?_
  refine v_bipush dX7_gives_29 bp_21 ?_
  refine v_dup2 dX7_gives_31 rfl rfl ?_
  refine v_iald (f := (zu11 2)) dX7_gives_32 rfl gl_21_41 ?_
  refine v_iload_n dX7_gives_33 rfl ?_
  refine v_iadd dX7_gives_34 ?_
  refine v_topi (fun zy13 ze14 => ?_)
  have hd := dl_n hd zy13 ze14
  refine v_ist (f := (zu11 2)) (h2 := (h_M (pw zu11 2 (21 : Int32).toNatClampNeg zy13) w)) dX7_gives_35 rfl gl_21_41 rfl ?_
  refine v_aload_n dX7_gives_36 rfl ?_
  refine v_get (v := .ref 2) dX7_gives_37 fl_X7_13 rfl rfl ?_
  refine v_bipush dX7_gives_40 bp_16 ?_
  refine v_aload_n dX7_gives_42 rfl ?_
  refine v_get (v := .ref 2) dX7_gives_43 fl_X7_13 rfl rfl ?_
  refine v_bipush dX7_gives_46 bp_16 ?_
  refine v_iald (f := (upd (zu11 2) (21 : Int32).toNatClampNeg zy13)) dX7_gives_48 rfl gl_16_41 ?_
  refine v_iload_n dX7_gives_49 rfl ?_
  refine v_icmp_le (tgt := 65) dX7_gives_50 (by decide) (fun zc15 => ?_) (fun zc15 => ?_)
  · have hd := g_t hd zc15
    refine v_iconst dX7_gives_65 ic_0 ?_
    refine v_ist (f := (upd (zu11 2) (21 : Int32).toNatClampNeg zy13)) (h2 := (h_M (pw (pw zu11 2 (21 : Int32).toNatClampNeg zy13) 2 (16 : Int32).toNatClampNeg (0 : Int32)) w)) dX7_gives_66 rfl gl_16_41 rfl ?_
    obtain rfl := Option.some.inj hd
    exact v_vretE dX7_gives_67 rfl rfl rfl
  · have hd := g_f hd zc15
    refine v_aload_n dX7_gives_53 rfl ?_
    refine v_get (v := .ref 2) dX7_gives_54 fl_X7_13 rfl rfl ?_
    refine v_bipush dX7_gives_57 bp_16 ?_
    refine v_iald (f := (upd (zu11 2) (21 : Int32).toNatClampNeg zy13)) dX7_gives_59 rfl gl_16_41 ?_
    refine v_iload_n dX7_gives_60 rfl ?_
    refine v_isub dX7_gives_61 ?_
    refine v_goto (tgt := 66) dX7_gives_62 (by decide) ?_
    refine v_topi (fun zy16 ze17 => ?_)
    have hd := dl_n hd zy16 ze17
    refine v_ist (f := (upd (zu11 2) (21 : Int32).toNatClampNeg zy13)) (h2 := (h_M (pw (pw zu11 2 (21 : Int32).toNatClampNeg zy13) 2 (16 : Int32).toNatClampNeg zy16) w)) dX7_gives_66 rfl gl_16_41 rfl ?_
    obtain rfl := Option.some.inj hd
    exact v_vretE dX7_gives_67 rfl rfl rfl
theorem m_M_gives (u : (Nat → Nat → Int32)) (a1 : Int32) (a2 : Int32) (w : Nat → Int64) {r : (Nat → Nat → Int32)} (hd : d_M_gives u a1 a2 = some r) : Mt yX7_gives cX7_gives 3 none (rm 0) [.ref 0, .int a1, .int a2] (h_M u w) (ab_eq none (h_M r w)) := Mt.of (by decide +kernel) (fun _ _ _ => trivial) (Nat.le_of_ble_eq_true rfl) (v_M_gives u a1 a2 w hd)

def d_M_asks_174  (u : (Nat → Nat → Int32)) (x2 : Int32) : Option ((Nat → Nat → Int32)) := some (pw u 2 (15 : Int32).toNatClampNeg x2)
set_option maxRecDepth 100000 in
set_option maxHeartbeats 4000000 in
theorem v_M_asks_174 (w : Nat → Int64) {r : (Nat → Nat → Int32)}  (u : (Nat → Nat → Int32)) (x2 : Int32) (hd : d_M_asks_174  u x2 = some r) : Vd RX7 "asks" cX7_asks 4 none (rm 2) (ab_eq none (h_M r w)) 0 0 0 0 174 [(0, .ref 0), (2, .int x2)] [] (h_M u w) := by
  unfold d_M_asks_174 at hd
  refine v_aload_n dX7_asks_174 rfl ?_
  refine v_get (v := .ref 2) dX7_asks_175 fl_X7_13 rfl rfl ?_
  refine v_bipush dX7_asks_178 bp_15 ?_
  refine v_iload_n dX7_asks_180 rfl ?_
  refine v_ist (f := (u 2)) (h2 := (h_M (pw u 2 (15 : Int32).toNatClampNeg x2) w)) dX7_asks_181 rfl gl_15_41 rfl ?_
  obtain rfl := Option.some.inj hd
  exact v_vretE dX7_asks_182 rfl rfl rfl

def d_M_asks_153  (u : (Nat → Nat → Int32)) (x2 : Int32) : Option ((Nat → Nat → Int32)) := (d_P_lesser (20 : Int32) (((u 2) (16 : Int32).toNatClampNeg) + (1 : Int32))).bind fun zr12 => d_M_asks_174 (pw u 2 (16 : Int32).toNatClampNeg zr12) x2
set_option maxRecDepth 100000 in
set_option maxHeartbeats 4000000 in
theorem v_M_asks_153 (w : Nat → Int64) {r : (Nat → Nat → Int32)}  (u : (Nat → Nat → Int32)) (x2 : Int32) (hd : d_M_asks_153  u x2 = some r) : Vd RX7 "asks" cX7_asks 4 none (rm 2) (ab_eq none (h_M r w)) 0 0 0 0 153 [(0, .ref 0), (2, .int x2)] [] (h_M u w) := by
  unfold d_M_asks_153 at hd
  refine v_aload_n dX7_asks_153 rfl ?_
  refine v_get (v := .ref 2) dX7_asks_154 fl_X7_13 rfl rfl ?_
  refine v_bipush dX7_asks_157 bp_16 ?_
  refine v_bipush dX7_asks_159 bp_20 ?_
  refine v_aload_n dX7_asks_161 rfl ?_
  refine v_get (v := .ref 2) dX7_asks_162 fl_X7_13 rfl rfl ?_
  refine v_bipush dX7_asks_165 bp_16 ?_
  refine v_iald (f := (u 2)) dX7_asks_167 rfl gl_16_41 ?_
  refine v_iconst dX7_asks_168 ic_1 ?_
  refine v_iadd dX7_asks_169 ?_
  obtain ⟨zr12, zh13, hd⟩ := g_bind hd
  refine v_cS (dy := 0) (st := [.int (16 : Int32), .ref 2]) (st2 := [.int zr12, .int (16 : Int32), .ref 2]) (h2 := (h_M u w)) [] dX7_asks_170 mz_X7_151 (m_P_lesser (20 : Int32) (((u 2) (16 : Int32).toNatClampNeg) + (1 : Int32)) zh13) rfl rfl rfl rfl rfl rfl (by decide) (by decide) rfl rfl rfl ?_
  refine v_ist (f := (u 2)) (h2 := (h_M (pw u 2 (16 : Int32).toNatClampNeg zr12) w)) dX7_asks_173 rfl gl_16_41 rfl ?_
  exact v_M_asks_174 w (pw u 2 (16 : Int32).toNatClampNeg zr12) x2 hd

def d_M_asks_149  (u : (Nat → Nat → Int32)) (x2 : Int32) (s1 : Int32) (s2 : Int32) : Option ((Nat → Nat → Int32)) := if gi s1 41 = true then dl (pw u 2 s1.toNatClampNeg s2) fun zu20 => d_M_asks_174 zu20 x2 else none
set_option maxRecDepth 100000 in
set_option maxHeartbeats 4000000 in
theorem v_M_asks_149 (w : Nat → Int64) {r : (Nat → Nat → Int32)}  (u : (Nat → Nat → Int32)) (x2 : Int32) (s1 : Int32) (s2 : Int32) (hd : d_M_asks_149  u x2 s1 s2 = some r) : Vd RX7 "asks" cX7_asks 4 none (rm 2) (ab_eq none (h_M r w)) 0 0 0 0 149 [(0, .ref 0), (2, .int x2)] [.int s2, .int s1, .ref 2] (h_M u w) := by
  unfold d_M_asks_149 at hd
  obtain ⟨zg19, hd⟩ := g_b hd
  refine v_ist (f := (u 2)) (h2 := (h_M (pw u 2 s1.toNatClampNeg s2) w)) dX7_asks_149 rfl (gi_in zg19) rfl ?_
  refine v_nmu (F := fun z => (h_M z w)) (e := (pw u 2 s1.toNatClampNeg s2)) (fun zu20 ze21 => ?_)
  have hd := dl_n hd zu20 ze21
  refine v_goto (tgt := 174) dX7_asks_150 (by decide) ?_
  exact v_M_asks_174 w zu20 x2 hd
def d_M_asks (u : (Nat → Nat → Int32)) : Option ((Nat → Nat → Int32)) := dl ((u 2) (15 : Int32).toNatClampNeg) fun zy1 => if (u 0 3) = 0 then none else dl ((zy1 + (1 : Int32)) - (zy1 + (1 : Int32)) / (u 0 3) * (u 0 3)) fun zy4 => if gi ((0 : Int32) + zy1) 41 = true then dl ((u 2) ((0 : Int32) + zy1).toNatClampNeg) fun zy7 => if zy7 = (1 : Int32) then ((d_P_lesser (9 : Int32) (((u 2) (17 : Int32).toNatClampNeg) + (1 : Int32))).bind fun zr26 => (d_M_burns (pw u 2 (17 : Int32).toNatClampNeg zr26) zy4 ((upd (u 2) (17 : Int32).toNatClampNeg zr26) (17 : Int32).toNatClampNeg)).bind fun zr28 => d_M_asks_174 zr28.2 zy4) else (if zy7 = (2 : Int32) then ((d_M_burns u zy1 ((u 2) (16 : Int32).toNatClampNeg)).bind fun zr22 => dl (((u 2) (16 : Int32).toNatClampNeg) - zr22.1) fun zy24 => d_M_asks_174 (pw zr22.2 2 (16 : Int32).toNatClampNeg zy24) zy4) else (if zy7 = (3 : Int32) then (if gi ((5 : Int32) + zy1) 41 = true then if ((u 2) ((5 : Int32) + zy1).toNatClampNeg) ≤ 0 then (d_M_asks_153 u zy4) else ((d_M_gives u zy1 (1 : Int32)).bind fun zr16 => if ((zr16 2) (17 : Int32).toNatClampNeg) ≤ 0 then (d_M_asks_149 zr16 zy4 (17 : Int32) (0 : Int32)) else (d_M_asks_149 zr16 zy4 (17 : Int32) (((zr16 2) (17 : Int32).toNatClampNeg) - (1 : Int32)))) else none) else (d_M_asks_153 u zy4))) else none
set_option maxRecDepth 100000 in
set_option maxHeartbeats 4000000 in
theorem v_M_asks (u : (Nat → Nat → Int32)) (w : Nat → Int64) {r : (Nat → Nat → Int32)} (hd : d_M_asks u = some r) : Vd RX7 "asks" cX7_asks 4 none (rm 2) (ab_eq none (h_M r w)) 0 0 0 0 0 [(0, .ref 0)] [] (h_M u w) := by
  unfold d_M_asks at hd
  refine v_aload_n dX7_asks_0 rfl ?_
  refine v_get (v := .ref 2) dX7_asks_1 fl_X7_13 rfl rfl ?_
  refine v_bipush dX7_asks_4 bp_15 ?_
  refine v_iald (f := (u 2)) dX7_asks_6 rfl gl_15_41 ?_
  refine v_topi (fun zy1 ze2 => ?_)
  have hd := dl_n hd zy1 ze2
  refine v_istore_n (i := 1) (L2 := [(1, .int zy1), (0, .ref 0)]) dX7_asks_7 rfl (Nat.le_of_ble_eq_true rfl) rfl ?_
  refine v_iload_n dX7_asks_8 rfl ?_
  refine v_iconst dX7_asks_9 ic_1 ?_
  refine v_iadd dX7_asks_10 ?_
  refine v_aload_n dX7_asks_11 rfl ?_
  refine v_get (v := .int (u 0 3)) dX7_asks_12 fl_X7_67 rfl rfl ?_
  obtain ⟨zg3, hd⟩ := g_n hd
  refine v_irem dX7_asks_15 zg3 ?_
  refine v_topi (fun zy4 ze5 => ?_)
  have hd := dl_n hd zy4 ze5
  refine v_istore_n (i := 2) (L2 := [(2, .int zy4), (1, .int zy1), (0, .ref 0)]) dX7_asks_16 rfl (Nat.le_of_ble_eq_true rfl) rfl ?_
  refine v_aload_n dX7_asks_17 rfl ?_
  refine v_get (v := .ref 2) dX7_asks_18 fl_X7_13 rfl rfl ?_
  refine v_iconst dX7_asks_21 ic_0 ?_
  refine v_iload_n dX7_asks_22 rfl ?_
  refine v_iadd dX7_asks_23 ?_
  obtain ⟨zg6, hd⟩ := g_b hd
  refine v_iald (f := (u 2)) dX7_asks_24 rfl (gi_in zg6) ?_
  refine v_topi (fun zy7 ze8 => ?_)
  have hd := dl_n hd zy7 ze8
  refine v_istore_n (i := 3) (L2 := [(3, .int zy7), (2, .int zy4), (1, .int zy1), (0, .ref 0)]) dX7_asks_25 rfl (Nat.le_of_ble_eq_true rfl) rfl ?_
  refine v_iload_n dX7_asks_26 rfl ?_
  refine v_iconst dX7_asks_27 ic_1 ?_
  refine v_icmp_ne (tgt := 68) dX7_asks_28 (by decide) (fun zc9 => ?_) (fun zc9 => ?_)
  · have hd := g_f hd zc9
    refine v_iload_n dX7_asks_68 rfl ?_
    refine v_iconst dX7_asks_69 ic_2 ?_
    refine v_icmp_ne (tgt := 98) dX7_asks_70 (by decide) (fun zc10 => ?_) (fun zc10 => ?_)
    · have hd := g_f hd zc10
      refine v_iload_n dX7_asks_98 rfl ?_
      refine v_iconst dX7_asks_99 ic_3 ?_
      refine v_icmp_ne (tgt := 153) dX7_asks_100 (by decide) (fun zc11 => ?_) (fun zc11 => ?_)
      · have hd := g_f hd zc11
        refine v_loc [3, 1] rfl ?_
        exact v_M_asks_153 w u zy4 hd
      · have hd := g_t hd zc11
        refine v_aload_n dX7_asks_103 rfl ?_
        refine v_get (v := .ref 2) dX7_asks_104 fl_X7_13 rfl rfl ?_
        refine v_iconst dX7_asks_107 ic_5 ?_
        refine v_iload_n dX7_asks_108 rfl ?_
        refine v_iadd dX7_asks_109 ?_
        obtain ⟨zg14, hd⟩ := g_b hd
        refine v_iald (f := (u 2)) dX7_asks_110 rfl (gi_in zg14) ?_
        refine v_if_le (tgt := 153) dX7_asks_111 (by decide) (fun zc15 => ?_) (fun zc15 => ?_)
        · have hd := g_t hd zc15
          refine v_loc [3, 1] rfl ?_
          exact v_M_asks_153 w u zy4 hd
        · have hd := g_f hd zc15
          refine v_aload_n dX7_asks_114 rfl ?_
          refine v_iload_n dX7_asks_115 rfl ?_
          refine v_iconst dX7_asks_116 ic_1 ?_
          obtain ⟨zr16, zh17, hd⟩ := g_bind hd
          refine v_cI (dy := 0) (st := []) (st2 := []) dX7_asks_117 mv_X7_157 (m_M_gives u zy1 (1 : Int32) w zh17) rfl rfl rfl rfl rfl (by decide) (by decide) rfl rfl ?_
          refine v_aload_n dX7_asks_120 rfl ?_
          refine v_get (v := .ref 2) dX7_asks_121 fl_X7_13 rfl rfl ?_
          refine v_bipush dX7_asks_124 bp_17 ?_
          refine v_aload_n dX7_asks_126 rfl ?_
          refine v_get (v := .ref 2) dX7_asks_127 fl_X7_13 rfl rfl ?_
          refine v_bipush dX7_asks_130 bp_17 ?_
          refine v_iald (f := (zr16 2)) dX7_asks_132 rfl gl_17_41 ?_
          refine v_if_le (tgt := 148) dX7_asks_133 (by decide) (fun zc18 => ?_) (fun zc18 => ?_)
          · have hd := g_t hd zc18
            refine v_iconst dX7_asks_148 ic_0 ?_
            refine v_loc [3, 1] rfl ?_
            exact v_M_asks_149 w zr16 zy4 (17 : Int32) (0 : Int32) hd
          · have hd := g_f hd zc18
            refine v_aload_n dX7_asks_136 rfl ?_
            refine v_get (v := .ref 2) dX7_asks_137 fl_X7_13 rfl rfl ?_
            refine v_bipush dX7_asks_140 bp_17 ?_
            refine v_iald (f := (zr16 2)) dX7_asks_142 rfl gl_17_41 ?_
            refine v_iconst dX7_asks_143 ic_1 ?_
            refine v_isub dX7_asks_144 ?_
            refine v_goto (tgt := 149) dX7_asks_145 (by decide) ?_
            refine v_loc [3, 1] rfl ?_
            exact v_M_asks_149 w zr16 zy4 (17 : Int32) (((zr16 2) (17 : Int32).toNatClampNeg) - (1 : Int32)) hd
    · have hd := g_t hd zc10
      refine v_aload_n dX7_asks_73 rfl ?_
      refine v_get (v := .ref 2) dX7_asks_74 fl_X7_13 rfl rfl ?_
      refine v_bipush dX7_asks_77 bp_16 ?_
      refine v_dup2 dX7_asks_79 rfl rfl ?_
      refine v_iald (f := (u 2)) dX7_asks_80 rfl gl_16_41 ?_
      refine v_aload_n dX7_asks_81 rfl ?_
      refine v_iload_n dX7_asks_82 rfl ?_
      refine v_aload_n dX7_asks_83 rfl ?_
      refine v_get (v := .ref 2) dX7_asks_84 fl_X7_13 rfl rfl ?_
      refine v_bipush dX7_asks_87 bp_16 ?_
      refine v_iald (f := (u 2)) dX7_asks_89 rfl gl_16_41 ?_
      obtain ⟨zr22, zh23, hd⟩ := g_bind hd
      refine v_cI (dy := 1) (st := [.int ((u 2) (16 : Int32).toNatClampNeg), .int (16 : Int32), .ref 2]) (st2 := [.int zr22.1, .int ((u 2) (16 : Int32).toNatClampNeg), .int (16 : Int32), .ref 2]) dX7_asks_90 mv_X7_154 (m_M_burns u zy1 ((u 2) (16 : Int32).toNatClampNeg) w zh23) rfl rfl rfl rfl rfl (by decide) (by decide) rfl rfl ?_
      refine v_isub dX7_asks_93 ?_
      refine v_topi (fun zy24 ze25 => ?_)
      have hd := dl_n hd zy24 ze25
      refine v_ist (f := (zr22.2 2)) (h2 := (h_M (pw zr22.2 2 (16 : Int32).toNatClampNeg zy24) w)) dX7_asks_94 rfl gl_16_41 rfl ?_
      refine v_goto (tgt := 174) dX7_asks_95 (by decide) ?_
      refine v_loc [3, 1] rfl ?_
      exact v_M_asks_174 w (pw zr22.2 2 (16 : Int32).toNatClampNeg zy24) zy4 hd
  · have hd := g_t hd zc9
    refine v_aload_n dX7_asks_31 rfl ?_
    refine v_get (v := .ref 2) dX7_asks_32 fl_X7_13 rfl rfl ?_
    refine v_bipush dX7_asks_35 bp_17 ?_
    refine v_bipush dX7_asks_37 bp_9 ?_
    refine v_aload_n dX7_asks_39 rfl ?_
    refine v_get (v := .ref 2) dX7_asks_40 fl_X7_13 rfl rfl ?_
    refine v_bipush dX7_asks_43 bp_17 ?_
    refine v_iald (f := (u 2)) dX7_asks_45 rfl gl_17_41 ?_
    refine v_iconst dX7_asks_46 ic_1 ?_
    refine v_iadd dX7_asks_47 ?_
    obtain ⟨zr26, zh27, hd⟩ := g_bind hd
    refine v_cS (dy := 0) (st := [.int (17 : Int32), .ref 2]) (st2 := [.int zr26, .int (17 : Int32), .ref 2]) (h2 := (h_M u w)) [] dX7_asks_48 mz_X7_151 (m_P_lesser (9 : Int32) (((u 2) (17 : Int32).toNatClampNeg) + (1 : Int32)) zh27) rfl rfl rfl rfl rfl rfl (by decide) (by decide) rfl rfl rfl ?_
    refine v_ist (f := (u 2)) (h2 := (h_M (pw u 2 (17 : Int32).toNatClampNeg zr26) w)) dX7_asks_51 rfl gl_17_41 rfl ?_
    refine v_aload_n dX7_asks_52 rfl ?_
    refine v_iload_n dX7_asks_53 rfl ?_
    refine v_aload_n dX7_asks_54 rfl ?_
    refine v_get (v := .ref 2) dX7_asks_55 fl_X7_13 rfl rfl ?_
    refine v_bipush dX7_asks_58 bp_17 ?_
    refine v_iald (f := (upd (u 2) (17 : Int32).toNatClampNeg zr26)) dX7_asks_60 rfl gl_17_41 ?_
    obtain ⟨zr28, zh29, hd⟩ := g_bind hd
    refine v_cI (dy := 1) (st := []) (st2 := [.int zr28.1]) dX7_asks_61 mv_X7_154 (m_M_burns (pw u 2 (17 : Int32).toNatClampNeg zr26) zy4 ((upd (u 2) (17 : Int32).toNatClampNeg zr26) (17 : Int32).toNatClampNeg) w zh29) rfl rfl rfl rfl rfl (by decide) (by decide) rfl rfl ?_
    refine v_pop dX7_asks_64 rfl ?_
    refine v_goto (tgt := 174) dX7_asks_65 (by decide) ?_
    refine v_loc [3, 1] rfl ?_
    exact v_M_asks_174 w zr28.2 zy4 hd
theorem m_M_asks (u : (Nat → Nat → Int32)) (w : Nat → Int64) {r : (Nat → Nat → Int32)} (hd : d_M_asks u = some r) : Mt yX7_asks cX7_asks 4 none (rm 2) [.ref 0] (h_M u w) (ab_eq none (h_M r w)) := Mt.of (by decide +kernel) (fun _ _ _ => trivial) (Nat.le_of_ble_eq_true rfl) (v_M_asks u w hd)

def d_M_nightGoes_34  (u : (Nat → Nat → Int32)) : Option ((Nat → Nat → Int32)) := dl (((u 2) (19 : Int32).toNatClampNeg) + (1 : Int32)) fun zy2 => some (pw u 2 (19 : Int32).toNatClampNeg zy2)
set_option maxRecDepth 100000 in
set_option maxHeartbeats 4000000 in
theorem v_M_nightGoes_34 (w : Nat → Int64) {r : (Nat → Nat → Int32)}  (u : (Nat → Nat → Int32)) (hd : d_M_nightGoes_34  u = some r) : Vd RX7 "nightGoes" cX7_nightGoes 1 none (rm 3) (ab_eq none (h_M r w)) 0 0 0 0 34 [(0, .ref 0)] [] (h_M u w) := by
  unfold d_M_nightGoes_34 at hd
  refine v_aload_n dX7_nightGoes_34 rfl ?_
  refine v_get (v := .ref 2) dX7_nightGoes_35 fl_X7_13 rfl rfl ?_
  refine v_bipush dX7_nightGoes_38 bp_19 ?_
  refine v_dup2 dX7_nightGoes_40 rfl rfl ?_
  refine v_iald (f := (u 2)) dX7_nightGoes_41 rfl gl_19_41 ?_
  refine v_iconst dX7_nightGoes_42 ic_1 ?_
  refine v_iadd dX7_nightGoes_43 ?_
  refine v_topi (fun zy2 ze3 => ?_)
  have hd := dl_n hd zy2 ze3
  refine v_ist (f := (u 2)) (h2 := (h_M (pw u 2 (19 : Int32).toNatClampNeg zy2) w)) dX7_nightGoes_44 rfl gl_19_41 rfl ?_
  obtain rfl := Option.some.inj hd
  exact v_vretE dX7_nightGoes_45 rfl rfl rfl
def d_M_nightGoes (u : (Nat → Nat → Int32)) : Option ((Nat → Nat → Int32)) := if (u 0 3) ≤ 0 then (d_M_nightGoes_34 u) else (if ((((u 2) (18 : Int32).toNatClampNeg) >>> ((((u 2) (19 : Int32).toNatClampNeg) - ((u 2) (19 : Int32).toNatClampNeg) / (7 : Int32) * (7 : Int32)) &&& 31)) &&& (1 : Int32)) = 0 then ((d_M_asks u).bind fun zr5 => d_M_nightGoes_34 zr5) else (d_M_nightGoes_34 u))
set_option maxRecDepth 100000 in
set_option maxHeartbeats 4000000 in
theorem v_M_nightGoes (u : (Nat → Nat → Int32)) (w : Nat → Int64) {r : (Nat → Nat → Int32)} (hd : d_M_nightGoes u = some r) : Vd RX7 "nightGoes" cX7_nightGoes 1 none (rm 3) (ab_eq none (h_M r w)) 0 0 0 0 0 [(0, .ref 0)] [] (h_M u w) := by
  unfold d_M_nightGoes at hd
  refine v_aload_n dX7_nightGoes_0 rfl ?_
  refine v_get (v := .int (u 0 3)) dX7_nightGoes_1 fl_X7_67 rfl rfl ?_
  refine v_if_le (tgt := 34) dX7_nightGoes_4 (by decide) (fun zc1 => ?_) (fun zc1 => ?_)
  · have hd := g_t hd zc1
    exact v_M_nightGoes_34 w u hd
  · have hd := g_f hd zc1
    refine v_aload_n dX7_nightGoes_7 rfl ?_
    refine v_get (v := .ref 2) dX7_nightGoes_8 fl_X7_13 rfl rfl ?_
    refine v_bipush dX7_nightGoes_11 bp_18 ?_
    refine v_iald (f := (u 2)) dX7_nightGoes_13 rfl gl_18_41 ?_
    refine v_aload_n dX7_nightGoes_14 rfl ?_
    refine v_get (v := .ref 2) dX7_nightGoes_15 fl_X7_13 rfl rfl ?_
    refine v_bipush dX7_nightGoes_18 bp_19 ?_
    refine v_iald (f := (u 2)) dX7_nightGoes_20 rfl gl_19_41 ?_
    refine v_bipush dX7_nightGoes_21 bp_7 ?_
    refine v_irem dX7_nightGoes_23 nz_7 ?_
    refine v_ishr dX7_nightGoes_24 ?_
    refine v_iconst dX7_nightGoes_25 ic_1 ?_
    refine v_iand dX7_nightGoes_26 ?_
    refine v_if_ne (tgt := 34) dX7_nightGoes_27 (by decide) (fun zc4 => ?_) (fun zc4 => ?_)
    · have hd := g_f hd zc4
      exact v_M_nightGoes_34 w u hd
    · have hd := g_t hd zc4
      refine v_aload_n dX7_nightGoes_30 rfl ?_
      obtain ⟨zr5, zh6, hd⟩ := g_bind hd
      refine v_cI (dy := 2) (st := []) (st2 := []) dX7_nightGoes_31 mv_X7_161 (m_M_asks u w zh6) rfl rfl rfl rfl rfl (by decide) (by decide) rfl rfl ?_
      exact v_M_nightGoes_34 w zr5 hd
theorem m_M_nightGoes (u : (Nat → Nat → Int32)) (w : Nat → Int64) {r : (Nat → Nat → Int32)} (hd : d_M_nightGoes u = some r) : Mt yX7_nightGoes cX7_nightGoes 1 none (rm 3) [.ref 0] (h_M u w) (ab_eq none (h_M r w)) := Mt.of (by decide +kernel) (fun _ _ _ => trivial) (Nat.le_of_ble_eq_true rfl) (v_M_nightGoes u w hd)

def d_M_nightsGo_2  : Nat → (Nat → Nat → Int32) → Int32 → Int32 → Option ((Nat → Nat → Int32))
  | 0, _, _, _ => none
  | f + 1, u, x1, x2 => if x1 ≤ x2 then (some u) else ((d_M_nightGoes u).bind fun zr2 => dl (x2 + (1 : Int32)) fun zy4 => d_M_nightsGo_2 f zr2 x1 zy4)
set_option maxRecDepth 100000 in
set_option maxHeartbeats 4000000 in
theorem v_M_nightsGo_2 (w : Nat → Int64) {r : (Nat → Nat → Int32)}  : ∀ (f : Nat) (u : (Nat → Nat → Int32)) (x1 : Int32) (x2 : Int32), d_M_nightsGo_2  f u x1 x2 = some r → Vd RX7 "nightsGo" cX7_nightsGo 3 none (rm 4) (ab_eq none (h_M r w)) 0 0 0 0 2 [(0, .ref 0), (1, .int x1), (2, .int x2)] [] (h_M u w) := by
  intro f
  induction f with
  | zero =>
    intro u x1 x2 hd
    rw [d_M_nightsGo_2] at hd
    cases hd
  | succ f ih =>
    intro u x1 x2 hd
    rw [d_M_nightsGo_2] at hd
    refine v_iload_n dX7_nightsGo_2 rfl ?_
    refine v_iload_n dX7_nightsGo_3 rfl ?_
    refine v_icmp_ge (tgt := 17) dX7_nightsGo_4 (by decide) (fun zc1 => ?_) (fun zc1 => ?_)
    · have hd := g_t hd zc1
      obtain rfl := Option.some.inj hd
      exact v_vretE dX7_nightsGo_17 rfl rfl rfl
    · have hd := g_f hd zc1
      refine v_aload_n dX7_nightsGo_7 rfl ?_
      obtain ⟨zr2, zh3, hd⟩ := g_bind hd
      refine v_cI (dy := 3) (st := []) (st2 := []) dX7_nightsGo_8 mv_X7_164 (m_M_nightGoes u w zh3) rfl rfl rfl rfl rfl (by decide) (by decide) rfl rfl ?_
      obtain ⟨zy4, ze5⟩ : ∃ z : Int32, z = (x2 + (1 : Int32)) := ⟨_, rfl⟩
      have hd := dl_n hd zy4 ze5
      refine v_iinc (v := zy4) (L2 := [(2, .int zy4), (0, .ref 0), (1, .int x1)]) dX7_nightsGo_11 rfl (by rw [ic_1]; exact ze5.symm) (Nat.le_of_ble_eq_true rfl) rfl ?_
      refine v_goto (tgt := 2) dX7_nightsGo_14 (by decide) ?_
      refine v_loc [1, 2, 0] rfl ?_
      exact ih zr2 x1 zy4 hd
def d_M_nightsGo (u : (Nat → Nat → Int32)) (a1 : Int32) : Option ((Nat → Nat → Int32)) := d_M_nightsGo_2 FU u a1 (0 : Int32)
set_option maxRecDepth 100000 in
set_option maxHeartbeats 4000000 in
theorem v_M_nightsGo (u : (Nat → Nat → Int32)) (a1 : Int32) (w : Nat → Int64) {r : (Nat → Nat → Int32)} (hd : d_M_nightsGo u a1 = some r) : Vd RX7 "nightsGo" cX7_nightsGo 3 none (rm 4) (ab_eq none (h_M r w)) 0 0 0 0 0 [(0, .ref 0), (1, .int a1)] [] (h_M u w) := by
  unfold d_M_nightsGo at hd
  refine v_iconst dX7_nightsGo_0 ic_0 ?_
  refine v_istore_n (i := 2) (L2 := [(2, .int (0 : Int32)), (0, .ref 0), (1, .int a1)]) dX7_nightsGo_1 rfl (Nat.le_of_ble_eq_true rfl) rfl ?_
  refine v_loc [1, 2, 0] rfl ?_
  exact v_M_nightsGo_2 w FU u a1 (0 : Int32) hd
theorem m_M_nightsGo (u : (Nat → Nat → Int32)) (a1 : Int32) (w : Nat → Int64) {r : (Nat → Nat → Int32)} (hd : d_M_nightsGo u a1 = some r) : Mt yX7_nightsGo cX7_nightsGo 3 none (rm 4) [.ref 0, .int a1] (h_M u w) (ab_eq none (h_M r w)) := Mt.of (by decide +kernel) (fun _ _ _ => trivial) (Nat.le_of_ble_eq_true rfl) (v_M_nightsGo u a1 w hd)
def d_M_lossOf (u : (Nat → Nat → Int32)) (a1 : Int32) : Option (Int32 × (Nat → Nat → Int32)) := dl (((u 2) (20 : Int32).toNatClampNeg) + ((u 2) (21 : Int32).toNatClampNeg)) fun zy1 => (d_M_nightsGo u a1).bind fun zr3 => some (((((zr3 2) (20 : Int32).toNatClampNeg) + ((zr3 2) (21 : Int32).toNatClampNeg)) - zy1), zr3)
set_option maxRecDepth 100000 in
set_option maxHeartbeats 4000000 in
theorem v_M_lossOf (u : (Nat → Nat → Int32)) (a1 : Int32) (w : Nat → Int64) {r : Int32 × (Nat → Nat → Int32)} (hd : d_M_lossOf u a1 = some r) : Vd RX7 "lossOf" cX7_lossOf 3 (some .int) (rm 5) (ab_eq (some (.int r.1)) (h_M r.2 w)) 0 0 0 0 0 [(0, .ref 0), (1, .int a1)] [] (h_M u w) := by
  unfold d_M_lossOf at hd
  refine v_aload_n dX7_lossOf_0 rfl ?_
  refine v_get (v := .ref 2) dX7_lossOf_1 fl_X7_13 rfl rfl ?_
  refine v_bipush dX7_lossOf_4 bp_20 ?_
  refine v_iald (f := (u 2)) dX7_lossOf_6 rfl gl_20_41 ?_
  refine v_aload_n dX7_lossOf_7 rfl ?_
  refine v_get (v := .ref 2) dX7_lossOf_8 fl_X7_13 rfl rfl ?_
  refine v_bipush dX7_lossOf_11 bp_21 ?_
  refine v_iald (f := (u 2)) dX7_lossOf_13 rfl gl_21_41 ?_
  refine v_iadd dX7_lossOf_14 ?_
  refine v_topi (fun zy1 ze2 => ?_)
  have hd := dl_n hd zy1 ze2
  refine v_istore_n (i := 2) (L2 := [(2, .int zy1), (0, .ref 0), (1, .int a1)]) dX7_lossOf_15 rfl (Nat.le_of_ble_eq_true rfl) rfl ?_
  refine v_aload_n dX7_lossOf_16 rfl ?_
  refine v_iload_n dX7_lossOf_17 rfl ?_
  obtain ⟨zr3, zh4, hd⟩ := g_bind hd
  refine v_cI (dy := 4) (st := []) (st2 := []) dX7_lossOf_18 mv_X7_167 (m_M_nightsGo u a1 w zh4) rfl rfl rfl rfl rfl (by decide) (by decide) rfl rfl ?_
  refine v_aload_n dX7_lossOf_21 rfl ?_
  refine v_get (v := .ref 2) dX7_lossOf_22 fl_X7_13 rfl rfl ?_
  refine v_bipush dX7_lossOf_25 bp_20 ?_
  refine v_iald (f := (zr3 2)) dX7_lossOf_27 rfl gl_20_41 ?_
  refine v_aload_n dX7_lossOf_28 rfl ?_
  refine v_get (v := .ref 2) dX7_lossOf_29 fl_X7_13 rfl rfl ?_
  refine v_bipush dX7_lossOf_32 bp_21 ?_
  refine v_iald (f := (zr3 2)) dX7_lossOf_34 rfl gl_21_41 ?_
  refine v_iadd dX7_lossOf_35 ?_
  refine v_iload_n dX7_lossOf_36 rfl ?_
  refine v_isub dX7_lossOf_37 ?_
  obtain rfl := Option.some.inj hd
  exact v_iretE dX7_lossOf_38 rfl rfl rfl rfl
theorem m_M_lossOf (u : (Nat → Nat → Int32)) (a1 : Int32) (w : Nat → Int64) {r : Int32 × (Nat → Nat → Int32)} (hd : d_M_lossOf u a1 = some r) : Mt yX7_lossOf cX7_lossOf 3 (some .int) (rm 5) [.ref 0, .int a1] (h_M u w) (ab_eq (some (.int r.1)) (h_M r.2 w)) := Mt.of (by decide +kernel) (fun _ _ _ => trivial) (Nat.le_of_ble_eq_true rfl) (v_M_lossOf u a1 w hd)

def d_M_allOf_4  : Nat → (Nat → Nat → Int32) → Int32 → Int32 → Int32 → Option Int32
  | 0, _, _, _, _ => none
  | f + 1, u, x1, x2, x3 => if (u 0 3) ≤ x3 then (some x2) else (if gi (x1 + x3) 41 = true then dl (x2 + ((u 2) (x1 + x3).toNatClampNeg)) fun zy3 => dl (x3 + (1 : Int32)) fun zy5 => d_M_allOf_4 f u x1 zy3 zy5 else none)
set_option maxRecDepth 100000 in
set_option maxHeartbeats 4000000 in
theorem v_M_allOf_4 (w : Nat → Int64) {r : Int32}  : ∀ (f : Nat) (u : (Nat → Nat → Int32)) (x1 : Int32) (x2 : Int32) (x3 : Int32), d_M_allOf_4  f u x1 x2 x3 = some r → Vd RX7 "allOf" cX7_allOf 4 (some .int) (rm 0) (ab_eq (some (.int r)) (h_M u w)) 0 0 0 0 4 [(0, .ref 0), (1, .int x1), (2, .int x2), (3, .int x3)] [] (h_M u w) := by
  intro f
  induction f with
  | zero =>
    intro u x1 x2 x3 hd
    rw [d_M_allOf_4] at hd
    cases hd
  | succ f ih =>
    intro u x1 x2 x3 hd
    rw [d_M_allOf_4] at hd
    refine v_iload_n dX7_allOf_4 rfl ?_
    refine v_aload_n dX7_allOf_5 rfl ?_
    refine v_get (v := .int (u 0 3)) dX7_allOf_6 fl_X7_67 rfl rfl ?_
    refine v_icmp_ge (tgt := 29) dX7_allOf_9 (by decide) (fun zc1 => ?_) (fun zc1 => ?_)
    · have hd := g_t hd zc1
      refine v_iload_n dX7_allOf_29 rfl ?_
      obtain rfl := Option.some.inj hd
      exact v_iretE dX7_allOf_30 rfl rfl rfl rfl
    · have hd := g_f hd zc1
      refine v_iload_n dX7_allOf_12 rfl ?_
      refine v_aload_n dX7_allOf_13 rfl ?_
      refine v_get (v := .ref 2) dX7_allOf_14 fl_X7_13 rfl rfl ?_
      refine v_iload_n dX7_allOf_17 rfl ?_
      refine v_iload_n dX7_allOf_18 rfl ?_
      refine v_iadd dX7_allOf_19 ?_
      obtain ⟨zg2, hd⟩ := g_b hd
      refine v_iald (f := (u 2)) dX7_allOf_20 rfl (gi_in zg2) ?_
      refine v_iadd dX7_allOf_21 ?_
      refine v_topi (fun zy3 ze4 => ?_)
      have hd := dl_n hd zy3 ze4
      refine v_istore_n (i := 2) (L2 := [(2, .int zy3), (0, .ref 0), (1, .int x1), (3, .int x3)]) dX7_allOf_22 rfl (Nat.le_of_ble_eq_true rfl) rfl ?_
      obtain ⟨zy5, ze6⟩ : ∃ z : Int32, z = (x3 + (1 : Int32)) := ⟨_, rfl⟩
      have hd := dl_n hd zy5 ze6
      refine v_iinc (v := zy5) (L2 := [(3, .int zy5), (2, .int zy3), (0, .ref 0), (1, .int x1)]) dX7_allOf_23 rfl (by rw [ic_1]; exact ze6.symm) (Nat.le_of_ble_eq_true rfl) rfl ?_
      refine v_goto (tgt := 4) dX7_allOf_26 (by decide) ?_
      refine v_loc [2, 3, 1, 0] rfl ?_
      exact ih u x1 zy3 zy5 hd
def d_M_allOf (u : (Nat → Nat → Int32)) (a1 : Int32) : Option Int32 := d_M_allOf_4 FU u a1 (0 : Int32) (0 : Int32)
set_option maxRecDepth 100000 in
set_option maxHeartbeats 4000000 in
theorem v_M_allOf (u : (Nat → Nat → Int32)) (a1 : Int32) (w : Nat → Int64) {r : Int32} (hd : d_M_allOf u a1 = some r) : Vd RX7 "allOf" cX7_allOf 4 (some .int) (rm 0) (ab_eq (some (.int r)) (h_M u w)) 0 0 0 0 0 [(0, .ref 0), (1, .int a1)] [] (h_M u w) := by
  unfold d_M_allOf at hd
  refine v_iconst dX7_allOf_0 ic_0 ?_
  refine v_istore_n (i := 2) (L2 := [(2, .int (0 : Int32)), (0, .ref 0), (1, .int a1)]) dX7_allOf_1 rfl (Nat.le_of_ble_eq_true rfl) rfl ?_
  refine v_iconst dX7_allOf_2 ic_0 ?_
  refine v_istore_n (i := 3) (L2 := [(3, .int (0 : Int32)), (2, .int (0 : Int32)), (0, .ref 0), (1, .int a1)]) dX7_allOf_3 rfl (Nat.le_of_ble_eq_true rfl) rfl ?_
  refine v_loc [2, 3, 1, 0] rfl ?_
  exact v_M_allOf_4 w FU u a1 (0 : Int32) (0 : Int32) hd
theorem m_M_allOf (u : (Nat → Nat → Int32)) (a1 : Int32) (w : Nat → Int64) {r : Int32} (hd : d_M_allOf u a1 = some r) : Mt yX7_allOf cX7_allOf 4 (some .int) (rm 0) [.ref 0, .int a1] (h_M u w) (ab_eq (some (.int r)) (h_M u w)) := Mt.of (by decide +kernel) (fun _ _ _ => trivial) (Nat.le_of_ble_eq_true rfl) (v_M_allOf u a1 w hd)

def d_M_rule_61  (u : (Nat → Nat → Int32)) (x1 : Int32) : Option (Int32 × (Nat → Nat → Int32)) := if gi (((15 : Int32) + x1) - (1 : Int32)) 123 = true then some (((u 1) (((15 : Int32) + x1) - (1 : Int32)).toNatClampNeg), u) else none
set_option maxRecDepth 100000 in
set_option maxHeartbeats 4000000 in
theorem v_M_rule_61 (w : Nat → Int64) {r : Int32 × (Nat → Nat → Int32)}  (u : (Nat → Nat → Int32)) (x1 : Int32) (hd : d_M_rule_61  u x1 = some r) : Vd RX7 "rule" cX7_rule 2 (some .int) (rm 1) (ab_eq (some (.int r.1)) (h_M r.2 w)) 0 0 0 0 61 [(0, .ref 0), (1, .int x1)] [] (h_M u w) := by
  unfold d_M_rule_61 at hd
  refine v_aload_n dX7_rule_61 rfl ?_
  refine v_get (v := .ref 1) dX7_rule_62 fl_X7_7 rfl rfl ?_
  refine v_bipush dX7_rule_65 bp_15 ?_
  refine v_iload_n dX7_rule_67 rfl ?_
  refine v_iadd dX7_rule_68 ?_
  refine v_iconst dX7_rule_69 ic_1 ?_
  refine v_isub dX7_rule_70 ?_
  obtain ⟨zg5, hd⟩ := g_b hd
  refine v_iald (f := (u 1)) dX7_rule_71 rfl (gi_in zg5) ?_
  obtain rfl := Option.some.inj hd
  exact v_iretE dX7_rule_72 rfl rfl rfl rfl
def d_M_rule (u : (Nat → Nat → Int32)) (a1 : Int32) : Option (Int32 × (Nat → Nat → Int32)) := (d_M_starts u).bind fun zr1 => if a1 = (0 : Int32) then (some ((zr1 0 3), zr1)) else if a1 = (1 : Int32) then (d_M_rule_61 zr1 a1) else if a1 = (2 : Int32) then (d_M_rule_61 zr1 a1) else if a1 = (3 : Int32) then (d_M_rule_61 zr1 a1) else if a1 = (4 : Int32) then (d_M_rule_61 zr1 a1) else if a1 = (5 : Int32) then (d_M_rule_61 zr1 a1) else if a1 = (6 : Int32) then (d_M_rule_61 zr1 a1) else if a1 = (7 : Int32) then (d_M_rule_61 zr1 a1) else if a1 = (8 : Int32) then ((d_M_allOf zr1 (5 : Int32)).bind fun zr13 => some (zr13, zr1)) else (some ((-1 : Int32), zr1))
set_option maxRecDepth 100000 in
set_option maxHeartbeats 4000000 in
theorem v_M_rule (u : (Nat → Nat → Int32)) (a1 : Int32) (w : Nat → Int64) {r : Int32 × (Nat → Nat → Int32)} (hd : d_M_rule u a1 = some r) : Vd RX7 "rule" cX7_rule 2 (some .int) (rm 1) (ab_eq (some (.int r.1)) (h_M r.2 w)) 0 0 0 0 0 [(0, .ref 0), (1, .int a1)] [] (h_M u w) := by
  unfold d_M_rule at hd
  refine v_aload_n dX7_rule_0 rfl ?_
  obtain ⟨zr1, zh2, hd⟩ := g_bind hd
  refine v_cI (dy := 0) (st := []) (st2 := []) dX7_rule_1 mv_X7_170 (m_M_starts u w zh2) rfl rfl rfl rfl rfl (by decide) (by decide) rfl rfl ?_
  refine v_iload_n dX7_rule_4 rfl ?_
  by_cases zc3 : a1 = (0 : Int32)
  · have hd := g_t hd zc3
    refine v_tIn (0 : Int32) (tgt := 56) dX7_rule_5 zc3 (by decide) (by decide) rfl (by decide) ?_
    refine v_aload_n dX7_rule_56 rfl ?_
    refine v_get (v := .int (zr1 0 3)) dX7_rule_57 fl_X7_67 rfl rfl ?_
    obtain rfl := Option.some.inj hd
    exact v_iretE dX7_rule_60 rfl rfl rfl rfl
  have hd := g_f hd zc3
  by_cases zc4 : a1 = (1 : Int32)
  · have hd := g_t hd zc4
    refine v_tIn (1 : Int32) (tgt := 61) dX7_rule_5 zc4 (by decide) (by decide) rfl (by decide) ?_
    exact v_M_rule_61 w zr1 a1 hd
  have hd := g_f hd zc4
  by_cases zc6 : a1 = (2 : Int32)
  · have hd := g_t hd zc6
    refine v_tIn (2 : Int32) (tgt := 61) dX7_rule_5 zc6 (by decide) (by decide) rfl (by decide) ?_
    exact v_M_rule_61 w zr1 a1 hd
  have hd := g_f hd zc6
  by_cases zc7 : a1 = (3 : Int32)
  · have hd := g_t hd zc7
    refine v_tIn (3 : Int32) (tgt := 61) dX7_rule_5 zc7 (by decide) (by decide) rfl (by decide) ?_
    exact v_M_rule_61 w zr1 a1 hd
  have hd := g_f hd zc7
  by_cases zc8 : a1 = (4 : Int32)
  · have hd := g_t hd zc8
    refine v_tIn (4 : Int32) (tgt := 61) dX7_rule_5 zc8 (by decide) (by decide) rfl (by decide) ?_
    exact v_M_rule_61 w zr1 a1 hd
  have hd := g_f hd zc8
  by_cases zc9 : a1 = (5 : Int32)
  · have hd := g_t hd zc9
    refine v_tIn (5 : Int32) (tgt := 61) dX7_rule_5 zc9 (by decide) (by decide) rfl (by decide) ?_
    exact v_M_rule_61 w zr1 a1 hd
  have hd := g_f hd zc9
  by_cases zc10 : a1 = (6 : Int32)
  · have hd := g_t hd zc10
    refine v_tIn (6 : Int32) (tgt := 61) dX7_rule_5 zc10 (by decide) (by decide) rfl (by decide) ?_
    exact v_M_rule_61 w zr1 a1 hd
  have hd := g_f hd zc10
  by_cases zc11 : a1 = (7 : Int32)
  · have hd := g_t hd zc11
    refine v_tIn (7 : Int32) (tgt := 61) dX7_rule_5 zc11 (by decide) (by decide) rfl (by decide) ?_
    exact v_M_rule_61 w zr1 a1 hd
  have hd := g_f hd zc11
  by_cases zc12 : a1 = (8 : Int32)
  · have hd := g_t hd zc12
    refine v_tIn (8 : Int32) (tgt := 73) dX7_rule_5 zc12 (by decide) (by decide) rfl (by decide) ?_
    refine v_aload_n dX7_rule_73 rfl ?_
    refine v_iconst dX7_rule_74 ic_5 ?_
    obtain ⟨zr13, zh14, hd⟩ := g_bind hd
    refine v_cI (dy := 0) (st := []) (st2 := [.int zr13]) dX7_rule_75 mv_X7_173 (m_M_allOf zr1 (5 : Int32) w zh14) rfl rfl rfl rfl rfl (by decide) (by decide) rfl rfl ?_
    obtain rfl := Option.some.inj hd
    exact v_iretE dX7_rule_78 rfl rfl rfl rfl
  have hd := g_f hd zc12
  refine v_tOut (tgt := 79) dX7_rule_5 (by have q0 := lv_neT (a := 0) zc3 rfl; have q1 := lv_neT (a := 1) zc4 rfl; have q2 := lv_neT (a := 2) zc6 rfl; have q3 := lv_neT (a := 3) zc7 rfl; have q4 := lv_neT (a := 4) zc8 rfl; have q5 := lv_neT (a := 5) zc9 rfl; have q6 := lv_neT (a := 6) zc10 rfl; have q7 := lv_neT (a := 7) zc11 rfl; have q8 := lv_neT (a := 8) zc12 rfl; omega) (by decide) ?_
  refine v_iconst dX7_rule_79 ic_m1 ?_
  obtain rfl := Option.some.inj hd
  exact v_iretE dX7_rule_80 rfl rfl rfl rfl
theorem m_M_rule (u : (Nat → Nat → Int32)) (a1 : Int32) (w : Nat → Int64) {r : Int32 × (Nat → Nat → Int32)} (hd : d_M_rule u a1 = some r) : Mt yX7_rule cX7_rule 2 (some .int) (rm 1) [.ref 0, .int a1] (h_M u w) (ab_eq (some (.int r.1)) (h_M r.2 w)) := Mt.of (by decide +kernel) (fun _ _ _ => trivial) (Nat.le_of_ble_eq_true rfl) (v_M_rule u a1 w hd)
def d_M_house (u : (Nat → Nat → Int32)) (a1 : Int32) (a2 : Int32) : Option Int32 := (d_M_isHouse u a1).bind fun zr1 => if zr1 = 0 then (some (-1 : Int32)) else ((d_P_in a2.toInt64 (0 : Int64) (2 : Int64)).bind fun zr4 => if zr4 = 0 then (some (-1 : Int32)) else (if gi (((5 : Int32) * a2) + a1) 123 = true then some ((u 1) (((5 : Int32) * a2) + a1).toNatClampNeg) else none))
set_option maxRecDepth 100000 in
set_option maxHeartbeats 4000000 in
theorem v_M_house (u : (Nat → Nat → Int32)) (a1 : Int32) (a2 : Int32) (w : Nat → Int64) {r : Int32} (hd : d_M_house u a1 a2 = some r) : Vd RX7 "house" cX7_house 3 (some .int) (rm 2) (ab_eq (some (.int r)) (h_M u w)) 0 0 0 0 0 [(0, .ref 0), (1, .int a1), (2, .int a2)] [] (h_M u w) := by
  unfold d_M_house at hd
  refine v_aload_n dX7_house_0 rfl ?_
  refine v_iload_n dX7_house_1 rfl ?_
  obtain ⟨zr1, zh2, hd⟩ := g_bind hd
  refine v_cI (dy := 1) (st := []) (st2 := [.int zr1]) dX7_house_2 mv_X7_176 (m_M_isHouse u a1 w zh2) rfl rfl rfl rfl rfl (by decide) (by decide) rfl rfl ?_
  refine v_if_eq (tgt := 33) dX7_house_5 (by decide) (fun zc3 => ?_) (fun zc3 => ?_)
  · have hd := g_t hd zc3
    refine v_iconst dX7_house_33 ic_m1 ?_
    obtain rfl := Option.some.inj hd
    exact v_iretE dX7_house_34 rfl rfl rfl rfl
  · have hd := g_f hd zc3
    refine v_iload_n dX7_house_8 rfl ?_
    refine v_i2l dX7_house_9 ?_
    refine v_lconst (v := 0) dX7_house_10 rfl ?_
    refine v_ldc2 dX7_house_11 kc_X7_180 ?_
    obtain ⟨zr4, zh5, hd⟩ := g_bind hd
    refine v_cS (dy := 0) (st := []) (st2 := [.int zr4]) (h2 := (h_M u w)) [] dX7_house_14 mz_X7_72 (m_P_in a2.toInt64 (0 : Int64) (2 : Int64) zh5) rfl rfl rfl rfl rfl rfl (by decide) (by decide) rfl rfl rfl ?_
    refine v_if_eq (tgt := 33) dX7_house_17 (by decide) (fun zc6 => ?_) (fun zc6 => ?_)
    · have hd := g_t hd zc6
      refine v_iconst dX7_house_33 ic_m1 ?_
      obtain rfl := Option.some.inj hd
      exact v_iretE dX7_house_34 rfl rfl rfl rfl
    · have hd := g_f hd zc6
      refine v_aload_n dX7_house_20 rfl ?_
      refine v_get (v := .ref 1) dX7_house_21 fl_X7_7 rfl rfl ?_
      refine v_iconst dX7_house_24 ic_5 ?_
      refine v_iload_n dX7_house_25 rfl ?_
      refine v_imul dX7_house_26 ?_
      refine v_iload_n dX7_house_27 rfl ?_
      refine v_iadd dX7_house_28 ?_
      obtain ⟨zg7, hd⟩ := g_b hd
      refine v_iald (f := (u 1)) dX7_house_29 rfl (gi_in zg7) ?_
      refine v_goto (tgt := 34) dX7_house_30 (by decide) ?_
      obtain rfl := Option.some.inj hd
      exact v_iretE dX7_house_34 rfl rfl rfl rfl
theorem m_M_house (u : (Nat → Nat → Int32)) (a1 : Int32) (a2 : Int32) (w : Nat → Int64) {r : Int32} (hd : d_M_house u a1 a2 = some r) : Mt yX7_house cX7_house 3 (some .int) (rm 2) [.ref 0, .int a1, .int a2] (h_M u w) (ab_eq (some (.int r)) (h_M u w)) := Mt.of (by decide +kernel) (fun _ _ _ => trivial) (Nat.le_of_ble_eq_true rfl) (v_M_house u a1 a2 w hd)
def d_M_becomes (u : (Nat → Nat → Int32)) (a1 : Int32) (a2 : Int32) : Option (Int32 × (Nat → Nat → Int32)) := if gi a1 123 = true then dl ((u 1) a1.toNatClampNeg) fun zy2 => if gi a1 123 = true then dl (pw u 1 a1.toNatClampNeg a2) fun zu5 => some (zy2, zu5) else none else none
set_option maxRecDepth 100000 in
set_option maxHeartbeats 4000000 in
theorem v_M_becomes (u : (Nat → Nat → Int32)) (a1 : Int32) (a2 : Int32) (w : Nat → Int64) {r : Int32 × (Nat → Nat → Int32)} (hd : d_M_becomes u a1 a2 = some r) : Vd RX7 "becomes" cX7_becomes 4 (some .int) (rm 0) (ab_eq (some (.int r.1)) (h_M r.2 w)) 0 0 0 0 0 [(0, .ref 0), (1, .int a1), (2, .int a2)] [] (h_M u w) := by
  unfold d_M_becomes at hd
  refine v_aload_n dX7_becomes_0 rfl ?_
  refine v_get (v := .ref 1) dX7_becomes_1 fl_X7_7 rfl rfl ?_
  refine v_iload_n dX7_becomes_4 rfl ?_
  obtain ⟨zg1, hd⟩ := g_b hd
  refine v_iald (f := (u 1)) dX7_becomes_5 rfl (gi_in zg1) ?_
  refine v_topi (fun zy2 ze3 => ?_)
  have hd := dl_n hd zy2 ze3
  refine v_istore_n (i := 3) (L2 := [(3, .int zy2), (0, .ref 0), (1, .int a1), (2, .int a2)]) dX7_becomes_6 rfl (Nat.le_of_ble_eq_true rfl) rfl ?_
  refine v_aload_n dX7_becomes_7 rfl ?_
  refine v_get (v := .ref 1) dX7_becomes_8 fl_X7_7 rfl rfl ?_
  refine v_iload_n dX7_becomes_11 rfl ?_
  refine v_iload_n dX7_becomes_12 rfl ?_
  obtain ⟨zg4, hd⟩ := g_b hd
  refine v_ist (f := (u 1)) (h2 := (h_M (pw u 1 a1.toNatClampNeg a2) w)) dX7_becomes_13 rfl (gi_in zg4) rfl ?_
  refine v_nmu (F := fun z => (h_M z w)) (e := (pw u 1 a1.toNatClampNeg a2)) (fun zu5 ze6 => ?_)
  have hd := dl_n hd zu5 ze6
  refine v_iload_n dX7_becomes_14 rfl ?_
  obtain rfl := Option.some.inj hd
  exact v_iretE dX7_becomes_15 rfl rfl rfl rfl
theorem m_M_becomes (u : (Nat → Nat → Int32)) (a1 : Int32) (a2 : Int32) (w : Nat → Int64) {r : Int32 × (Nat → Nat → Int32)} (hd : d_M_becomes u a1 a2 = some r) : Mt yX7_becomes cX7_becomes 4 (some .int) (rm 0) [.ref 0, .int a1, .int a2] (h_M u w) (ab_eq (some (.int r.1)) (h_M r.2 w)) := Mt.of (by decide +kernel) (fun _ _ _ => trivial) (Nat.le_of_ble_eq_true rfl) (v_M_becomes u a1 a2 w hd)

def d_M_alter_31  (u : (Nat → Nat → Int32)) (x1 : Int32) (x2 : Int32) (x3 : Int32) (s0 : Int64) (s1 : Int64) (s2 : Int64) : Option (Int32 × (Nat → Nat → Int32)) := (d_P_in s0 s1 s2).bind fun zr8 => if zr8 = 0 then (some ((-1 : Int32), u)) else ((d_M_becomes u (((5 : Int32) * x2) + x1) x3).bind fun zr11 => some (zr11.1, zr11.2))
set_option maxRecDepth 100000 in
set_option maxHeartbeats 4000000 in
theorem v_M_alter_31 (w : Nat → Int64) {r : Int32 × (Nat → Nat → Int32)}  (u : (Nat → Nat → Int32)) (x1 : Int32) (x2 : Int32) (x3 : Int32) (s0 : Int64) (s1 : Int64) (s2 : Int64) (hd : d_M_alter_31  u x1 x2 x3 s0 s1 s2 = some r) : Vd RX7 "alter" cX7_alter 4 (some .int) (rm 2) (ab_eq (some (.int r.1)) (h_M r.2 w)) 0 0 0 0 31 [(0, .ref 0), (1, .int x1), (2, .int x2), (3, .int x3)] [.long s2, .long s1, .long s0] (h_M u w) := by
  unfold d_M_alter_31 at hd
  obtain ⟨zr8, zh9, hd⟩ := g_bind hd
  refine v_cS (dy := 0) (st := []) (st2 := [.int zr8]) (h2 := (h_M u w)) [] dX7_alter_31 mz_X7_72 (m_P_in s0 s1 s2 zh9) rfl rfl rfl rfl rfl rfl (by decide) (by decide) rfl rfl rfl ?_
  refine v_if_eq (tgt := 50) dX7_alter_34 (by decide) (fun zc10 => ?_) (fun zc10 => ?_)
  · have hd := g_t hd zc10
    refine v_iconst dX7_alter_50 ic_m1 ?_
    obtain rfl := Option.some.inj hd
    exact v_iretE dX7_alter_51 rfl rfl rfl rfl
  · have hd := g_f hd zc10
    refine v_aload_n dX7_alter_37 rfl ?_
    refine v_iconst dX7_alter_38 ic_5 ?_
    refine v_iload_n dX7_alter_39 rfl ?_
    refine v_imul dX7_alter_40 ?_
    refine v_iload_n dX7_alter_41 rfl ?_
    refine v_iadd dX7_alter_42 ?_
    refine v_iload_n dX7_alter_43 rfl ?_
    obtain ⟨zr11, zh12, hd⟩ := g_bind hd
    refine v_cI (dy := 0) (st := []) (st2 := [.int zr11.1]) dX7_alter_44 mv_X7_189 (m_M_becomes u (((5 : Int32) * x2) + x1) x3 w zh12) rfl rfl rfl rfl rfl (by decide) (by decide) rfl rfl ?_
    refine v_goto (tgt := 51) dX7_alter_47 (by decide) ?_
    obtain rfl := Option.some.inj hd
    exact v_iretE dX7_alter_51 rfl rfl rfl rfl
def d_M_alter (u : (Nat → Nat → Int32)) (a1 : Int32) (a2 : Int32) (a3 : Int32) : Option (Int32 × (Nat → Nat → Int32)) := (d_M_isHouse u a1).bind fun zr1 => if zr1 = 0 then (some ((-1 : Int32), u)) else ((d_P_isPart a2).bind fun zr4 => if zr4 = 0 then (some ((-1 : Int32), u)) else (if a2 = 0 then (d_M_alter_31 u a1 a2 a3 a3.toInt64 (0 : Int64) (3 : Int64)) else (d_M_alter_31 u a1 a2 a3 a3.toInt64 (0 : Int64) (99 : Int64))))
set_option maxRecDepth 100000 in
set_option maxHeartbeats 4000000 in
theorem v_M_alter (u : (Nat → Nat → Int32)) (a1 : Int32) (a2 : Int32) (a3 : Int32) (w : Nat → Int64) {r : Int32 × (Nat → Nat → Int32)} (hd : d_M_alter u a1 a2 a3 = some r) : Vd RX7 "alter" cX7_alter 4 (some .int) (rm 2) (ab_eq (some (.int r.1)) (h_M r.2 w)) 0 0 0 0 0 [(0, .ref 0), (1, .int a1), (2, .int a2), (3, .int a3)] [] (h_M u w) := by
  unfold d_M_alter at hd
  refine v_aload_n dX7_alter_0 rfl ?_
  refine v_iload_n dX7_alter_1 rfl ?_
  obtain ⟨zr1, zh2, hd⟩ := g_bind hd
  refine v_cI (dy := 1) (st := []) (st2 := [.int zr1]) dX7_alter_2 mv_X7_176 (m_M_isHouse u a1 w zh2) rfl rfl rfl rfl rfl (by decide) (by decide) rfl rfl ?_
  refine v_if_eq (tgt := 50) dX7_alter_5 (by decide) (fun zc3 => ?_) (fun zc3 => ?_)
  · have hd := g_t hd zc3
    refine v_iconst dX7_alter_50 ic_m1 ?_
    obtain rfl := Option.some.inj hd
    exact v_iretE dX7_alter_51 rfl rfl rfl rfl
  · have hd := g_f hd zc3
    refine v_iload_n dX7_alter_8 rfl ?_
    obtain ⟨zr4, zh5, hd⟩ := g_bind hd
    refine v_cS (dy := 1) (st := []) (st2 := [.int zr4]) (h2 := (h_M u w)) [] dX7_alter_9 mz_X7_182 (m_P_isPart a2 zh5) rfl rfl rfl rfl rfl rfl (by decide) (by decide) rfl rfl rfl ?_
    refine v_if_eq (tgt := 50) dX7_alter_12 (by decide) (fun zc6 => ?_) (fun zc6 => ?_)
    · have hd := g_t hd zc6
      refine v_iconst dX7_alter_50 ic_m1 ?_
      obtain rfl := Option.some.inj hd
      exact v_iretE dX7_alter_51 rfl rfl rfl rfl
    · have hd := g_f hd zc6
      refine v_iload_n dX7_alter_15 rfl ?_
      refine v_i2l dX7_alter_16 ?_
      refine v_lconst (v := 0) dX7_alter_17 rfl ?_
      refine v_iload_n dX7_alter_18 rfl ?_
      refine v_if_ne (tgt := 28) dX7_alter_19 (by decide) (fun zc7 => ?_) (fun zc7 => ?_)
      · have hd := g_f hd zc7
        refine v_ldc2 dX7_alter_28 kc_X7_187 ?_
        exact v_M_alter_31 w u a1 a2 a3 a3.toInt64 (0 : Int64) (99 : Int64) hd
      · have hd := g_t hd zc7
        refine v_ldc2 dX7_alter_22 kc_X7_185 ?_
        refine v_goto (tgt := 31) dX7_alter_25 (by decide) ?_
        exact v_M_alter_31 w u a1 a2 a3 a3.toInt64 (0 : Int64) (3 : Int64) hd
theorem m_M_alter (u : (Nat → Nat → Int32)) (a1 : Int32) (a2 : Int32) (a3 : Int32) (w : Nat → Int64) {r : Int32 × (Nat → Nat → Int32)} (hd : d_M_alter u a1 a2 a3 = some r) : Mt yX7_alter cX7_alter 4 (some .int) (rm 2) [.ref 0, .int a1, .int a2, .int a3] (h_M u w) (ab_eq (some (.int r.1)) (h_M r.2 w)) := Mt.of (by decide +kernel) (fun _ _ _ => trivial) (Nat.le_of_ble_eq_true rfl) (v_M_alter u a1 a2 a3 w hd)

def d_M_set_52  (u : (Nat → Nat → Int32)) (x1 : Int32) (x2 : Int32) (s0 : Int32) : Option (Int32 × (Nat → Nat → Int32)) := if s0 = 0 then (some ((-1 : Int32), u)) else ((d_M_becomes u (((15 : Int32) + x1) - (1 : Int32)) x2).bind fun zr5 => some (zr5.1, zr5.2))
set_option maxRecDepth 100000 in
set_option maxHeartbeats 4000000 in
theorem v_M_set_52 (w : Nat → Int64) {r : Int32 × (Nat → Nat → Int32)}  (u : (Nat → Nat → Int32)) (x1 : Int32) (x2 : Int32) (s0 : Int32) (hd : d_M_set_52  u x1 x2 s0 = some r) : Vd RX7 "set" cX7_set 4 (some .int) (rm 2) (ab_eq (some (.int r.1)) (h_M r.2 w)) 0 0 0 0 52 [(0, .ref 0), (1, .int x1), (2, .int x2)] [.int s0] (h_M u w) := by
  unfold d_M_set_52 at hd
  refine v_istore_n (i := 3) (L2 := [(3, .int s0), (0, .ref 0), (1, .int x1), (2, .int x2)]) dX7_set_52 rfl (Nat.le_of_ble_eq_true rfl) rfl ?_
  refine v_iload_n dX7_set_53 rfl ?_
  refine v_if_eq (tgt := 71) dX7_set_54 (by decide) (fun zc4 => ?_) (fun zc4 => ?_)
  · have hd := g_t hd zc4
    refine v_iconst dX7_set_71 ic_m1 ?_
    obtain rfl := Option.some.inj hd
    exact v_iretE dX7_set_72 rfl rfl rfl rfl
  · have hd := g_f hd zc4
    refine v_aload_n dX7_set_57 rfl ?_
    refine v_bipush dX7_set_58 bp_15 ?_
    refine v_iload_n dX7_set_60 rfl ?_
    refine v_iadd dX7_set_61 ?_
    refine v_iconst dX7_set_62 ic_1 ?_
    refine v_isub dX7_set_63 ?_
    refine v_iload_n dX7_set_64 rfl ?_
    obtain ⟨zr5, zh6, hd⟩ := g_bind hd
    refine v_cI (dy := 0) (st := []) (st2 := [.int zr5.1]) dX7_set_65 mv_X7_189 (m_M_becomes u (((15 : Int32) + x1) - (1 : Int32)) x2 w zh6) rfl rfl rfl rfl rfl (by decide) (by decide) rfl rfl ?_
    refine v_goto (tgt := 72) dX7_set_68 (by decide) ?_
    obtain rfl := Option.some.inj hd
    exact v_iretE dX7_set_72 rfl rfl rfl rfl

def d_M_set_51  (u : (Nat → Nat → Int32)) (x1 : Int32) (x2 : Int32) : Option (Int32 × (Nat → Nat → Int32)) := d_M_set_52 u x1 x2 (0 : Int32)
set_option maxRecDepth 100000 in
set_option maxHeartbeats 4000000 in
theorem v_M_set_51 (w : Nat → Int64) {r : Int32 × (Nat → Nat → Int32)}  (u : (Nat → Nat → Int32)) (x1 : Int32) (x2 : Int32) (hd : d_M_set_51  u x1 x2 = some r) : Vd RX7 "set" cX7_set 4 (some .int) (rm 2) (ab_eq (some (.int r.1)) (h_M r.2 w)) 0 0 0 0 51 [(0, .ref 0), (1, .int x1), (2, .int x2)] [] (h_M u w) := by
  unfold d_M_set_51 at hd
  refine v_iconst dX7_set_51 ic_0 ?_
  exact v_M_set_52 w u x1 x2 (0 : Int32) hd
def d_M_set (u : (Nat → Nat → Int32)) (a1 : Int32) (a2 : Int32) : Option (Int32 × (Nat → Nat → Int32)) := if a1 = (1 : Int32) then ((d_M_isHouse u a2).bind fun zr12 => d_M_set_52 u a1 a2 zr12) else (if a1 = (2 : Int32) then ((d_P_in a2.toInt64 (0 : Int64) (20 : Int64)).bind fun zr10 => d_M_set_52 u a1 a2 zr10) else (if a1 = (3 : Int32) then ((d_P_in a2.toInt64 (0 : Int64) (9 : Int64)).bind fun zr7 => if zr7 = 0 then (d_M_set_51 u a1 a2) else (d_M_set_52 u a1 a2 (1 : Int32))) else (d_M_set_51 u a1 a2)))
set_option maxRecDepth 100000 in
set_option maxHeartbeats 4000000 in
theorem v_M_set (u : (Nat → Nat → Int32)) (a1 : Int32) (a2 : Int32) (w : Nat → Int64) {r : Int32 × (Nat → Nat → Int32)} (hd : d_M_set u a1 a2 = some r) : Vd RX7 "set" cX7_set 4 (some .int) (rm 2) (ab_eq (some (.int r.1)) (h_M r.2 w)) 0 0 0 0 0 [(0, .ref 0), (1, .int a1), (2, .int a2)] [] (h_M u w) := by
  unfold d_M_set at hd
  refine v_iload_n dX7_set_0 rfl ?_
  refine v_iconst dX7_set_1 ic_1 ?_
  refine v_icmp_ne (tgt := 13) dX7_set_2 (by decide) (fun zc1 => ?_) (fun zc1 => ?_)
  · have hd := g_f hd zc1
    refine v_iload_n dX7_set_13 rfl ?_
    refine v_iconst dX7_set_14 ic_2 ?_
    refine v_icmp_ne (tgt := 30) dX7_set_15 (by decide) (fun zc2 => ?_) (fun zc2 => ?_)
    · have hd := g_f hd zc2
      refine v_iload_n dX7_set_30 rfl ?_
      refine v_iconst dX7_set_31 ic_3 ?_
      refine v_icmp_ne (tgt := 51) dX7_set_32 (by decide) (fun zc3 => ?_) (fun zc3 => ?_)
      · have hd := g_f hd zc3
        exact v_M_set_51 w u a1 a2 hd
      · have hd := g_t hd zc3
        refine v_iload_n dX7_set_35 rfl ?_
        refine v_i2l dX7_set_36 ?_
        refine v_lconst (v := 0) dX7_set_37 rfl ?_
        refine v_ldc2 dX7_set_38 kc_X7_194 ?_
        obtain ⟨zr7, zh8, hd⟩ := g_bind hd
        refine v_cS (dy := 0) (st := []) (st2 := [.int zr7]) (h2 := (h_M u w)) [] dX7_set_41 mz_X7_72 (m_P_in a2.toInt64 (0 : Int64) (9 : Int64) zh8) rfl rfl rfl rfl rfl rfl (by decide) (by decide) rfl rfl rfl ?_
        refine v_if_eq (tgt := 51) dX7_set_44 (by decide) (fun zc9 => ?_) (fun zc9 => ?_)
        · have hd := g_t hd zc9
          exact v_M_set_51 w u a1 a2 hd
        · have hd := g_f hd zc9
          refine v_iconst dX7_set_47 ic_1 ?_
          refine v_goto (tgt := 52) dX7_set_48 (by decide) ?_
          exact v_M_set_52 w u a1 a2 (1 : Int32) hd
    · have hd := g_t hd zc2
      refine v_iload_n dX7_set_18 rfl ?_
      refine v_i2l dX7_set_19 ?_
      refine v_lconst (v := 0) dX7_set_20 rfl ?_
      refine v_ldc2 dX7_set_21 kc_X7_192 ?_
      obtain ⟨zr10, zh11, hd⟩ := g_bind hd
      refine v_cS (dy := 0) (st := []) (st2 := [.int zr10]) (h2 := (h_M u w)) [] dX7_set_24 mz_X7_72 (m_P_in a2.toInt64 (0 : Int64) (20 : Int64) zh11) rfl rfl rfl rfl rfl rfl (by decide) (by decide) rfl rfl rfl ?_
      refine v_goto (tgt := 52) dX7_set_27 (by decide) ?_
      exact v_M_set_52 w u a1 a2 zr10 hd
  · have hd := g_t hd zc1
    refine v_aload_n dX7_set_5 rfl ?_
    refine v_iload_n dX7_set_6 rfl ?_
    obtain ⟨zr12, zh13, hd⟩ := g_bind hd
    refine v_cI (dy := 1) (st := []) (st2 := [.int zr12]) dX7_set_7 mv_X7_176 (m_M_isHouse u a2 w zh13) rfl rfl rfl rfl rfl (by decide) (by decide) rfl rfl ?_
    refine v_goto (tgt := 52) dX7_set_10 (by decide) ?_
    exact v_M_set_52 w u a1 a2 zr12 hd
theorem m_M_set (u : (Nat → Nat → Int32)) (a1 : Int32) (a2 : Int32) (w : Nat → Int64) {r : Int32 × (Nat → Nat → Int32)} (hd : d_M_set u a1 a2 = some r) : Mt yX7_set cX7_set 4 (some .int) (rm 2) [.ref 0, .int a1, .int a2] (h_M u w) (ab_eq (some (.int r.1)) (h_M r.2 w)) := Mt.of (by decide +kernel) (fun _ _ _ => trivial) (Nat.le_of_ble_eq_true rfl) (v_M_set u a1 a2 w hd)

def d_M_rain_47  (u : (Nat → Nat → Int32)) (x1 : Int32) (x3 : Int32) (s1 : Int32) (s2 : Int32) : Option (Int32 × (Nat → Nat → Int32)) := if gi s1 123 = true then dl (pw u 1 s1.toNatClampNeg s2) fun zu8 => some (((x3 >>> (x1 &&& 31)) &&& (1 : Int32)), zu8) else none
set_option maxRecDepth 100000 in
set_option maxHeartbeats 4000000 in
theorem v_M_rain_47 (w : Nat → Int64) {r : Int32 × (Nat → Nat → Int32)}  (u : (Nat → Nat → Int32)) (x1 : Int32) (x3 : Int32) (s1 : Int32) (s2 : Int32) (hd : d_M_rain_47  u x1 x3 s1 s2 = some r) : Vd RX7 "rain" cX7_rain 4 (some .int) (rm 1) (ab_eq (some (.int r.1)) (h_M r.2 w)) 0 0 0 0 47 [(1, .int x1), (3, .int x3)] [.int s2, .int s1, .ref 1] (h_M u w) := by
  unfold d_M_rain_47 at hd
  obtain ⟨zg7, hd⟩ := g_b hd
  refine v_ist (f := (u 1)) (h2 := (h_M (pw u 1 s1.toNatClampNeg s2) w)) dX7_rain_47 rfl (gi_in zg7) rfl ?_
  refine v_nmu (F := fun z => (h_M z w)) (e := (pw u 1 s1.toNatClampNeg s2)) (fun zu8 ze9 => ?_)
  have hd := dl_n hd zu8 ze9
  refine v_iload_n dX7_rain_48 rfl ?_
  refine v_iload_n dX7_rain_49 rfl ?_
  refine v_ishr dX7_rain_50 ?_
  refine v_iconst dX7_rain_51 ic_1 ?_
  refine v_iand dX7_rain_52 ?_
  obtain rfl := Option.some.inj hd
  exact v_iretE dX7_rain_53 rfl rfl rfl rfl
def d_M_rain (u : (Nat → Nat → Int32)) (a1 : Int32) (a2 : Int32) : Option (Int32 × (Nat → Nat → Int32)) := (d_P_in a1.toInt64 (0 : Int64) (6 : Int64)).bind fun zr1 => if zr1 = 0 then (some ((-1 : Int32), u)) else (dl ((u 1) (18 : Int32).toNatClampNeg) fun zy4 => if a2 = 0 then (d_M_rain_47 u a1 zy4 (18 : Int32) (zy4 &&& (((1 : Int32) <<< (a1 &&& 31)) ^^^ (-1 : Int32)))) else (d_M_rain_47 u a1 zy4 (18 : Int32) (zy4 ||| ((1 : Int32) <<< (a1 &&& 31)))))
set_option maxRecDepth 100000 in
set_option maxHeartbeats 4000000 in
theorem v_M_rain (u : (Nat → Nat → Int32)) (a1 : Int32) (a2 : Int32) (w : Nat → Int64) {r : Int32 × (Nat → Nat → Int32)} (hd : d_M_rain u a1 a2 = some r) : Vd RX7 "rain" cX7_rain 4 (some .int) (rm 1) (ab_eq (some (.int r.1)) (h_M r.2 w)) 0 0 0 0 0 [(0, .ref 0), (1, .int a1), (2, .int a2)] [] (h_M u w) := by
  unfold d_M_rain at hd
  refine v_iload_n dX7_rain_0 rfl ?_
  refine v_i2l dX7_rain_1 ?_
  refine v_lconst (v := 0) dX7_rain_2 rfl ?_
  refine v_ldc2 dX7_rain_3 kc_X7_196 ?_
  obtain ⟨zr1, zh2, hd⟩ := g_bind hd
  refine v_cS (dy := 0) (st := []) (st2 := [.int zr1]) (h2 := (h_M u w)) [] dX7_rain_6 mz_X7_72 (m_P_in a1.toInt64 (0 : Int64) (6 : Int64) zh2) rfl rfl rfl rfl rfl rfl (by decide) (by decide) rfl rfl rfl ?_
  refine v_if_ne (tgt := 14) dX7_rain_9 (by decide) (fun zc3 => ?_) (fun zc3 => ?_)
  · have hd := g_f hd zc3
    refine v_aload_n dX7_rain_14 rfl ?_
    refine v_get (v := .ref 1) dX7_rain_15 fl_X7_7 rfl rfl ?_
    refine v_bipush dX7_rain_18 bp_18 ?_
    refine v_iald (f := (u 1)) dX7_rain_20 rfl gl_18_123 ?_
    refine v_topi (fun zy4 ze5 => ?_)
    have hd := dl_n hd zy4 ze5
    refine v_istore_n (i := 3) (L2 := [(3, .int zy4), (0, .ref 0), (1, .int a1), (2, .int a2)]) dX7_rain_21 rfl (Nat.le_of_ble_eq_true rfl) rfl ?_
    refine v_aload_n dX7_rain_22 rfl ?_
    refine v_get (v := .ref 1) dX7_rain_23 fl_X7_7 rfl rfl ?_
    refine v_bipush dX7_rain_26 bp_18 ?_
    refine v_iload_n dX7_rain_28 rfl ?_
    refine v_if_eq (tgt := 40) dX7_rain_29 (by decide) (fun zc6 => ?_) (fun zc6 => ?_)
    · have hd := g_t hd zc6
      refine v_iload_n dX7_rain_40 rfl ?_
      refine v_iconst dX7_rain_41 ic_1 ?_
      refine v_iload_n dX7_rain_42 rfl ?_
      refine v_ishl dX7_rain_43 ?_
      refine v_iconst dX7_rain_44 ic_m1 ?_
      refine v_ixor dX7_rain_45 ?_
      refine v_iand dX7_rain_46 ?_
      refine v_loc [2, 0] rfl ?_
      exact v_M_rain_47 w u a1 zy4 (18 : Int32) (zy4 &&& (((1 : Int32) <<< (a1 &&& 31)) ^^^ (-1 : Int32))) hd
    · have hd := g_f hd zc6
      refine v_iload_n dX7_rain_32 rfl ?_
      refine v_iconst dX7_rain_33 ic_1 ?_
      refine v_iload_n dX7_rain_34 rfl ?_
      refine v_ishl dX7_rain_35 ?_
      refine v_ior dX7_rain_36 ?_
      refine v_goto (tgt := 47) dX7_rain_37 (by decide) ?_
      refine v_loc [2, 0] rfl ?_
      exact v_M_rain_47 w u a1 zy4 (18 : Int32) (zy4 ||| ((1 : Int32) <<< (a1 &&& 31))) hd
  · have hd := g_t hd zc3
    refine v_iconst dX7_rain_12 ic_m1 ?_
    obtain rfl := Option.some.inj hd
    exact v_iretE dX7_rain_13 rfl rfl rfl rfl
theorem m_M_rain (u : (Nat → Nat → Int32)) (a1 : Int32) (a2 : Int32) (w : Nat → Int64) {r : Int32 × (Nat → Nat → Int32)} (hd : d_M_rain u a1 a2 = some r) : Mt yX7_rain cX7_rain 4 (some .int) (rm 1) [.ref 0, .int a1, .int a2] (h_M u w) (ab_eq (some (.int r.1)) (h_M r.2 w)) := Mt.of (by decide +kernel) (fun _ _ _ => trivial) (Nat.le_of_ble_eq_true rfl) (v_M_rain u a1 a2 w hd)
def d_M_offer (u : (Nat → Nat → Int32)) (a1 : Int32) (a2 : Int32) : Option (Int32 × (Nat → Nat → Int32)) := (d_M_isHouse u a1).bind fun zr1 => if zr1 = 0 then (some ((-1 : Int32), u)) else ((d_P_in a2.toInt64 (1 : Int64) (20 : Int64)).bind fun zr4 => if zr4 = 0 then (some ((-1 : Int32), u)) else (if gi ((5 : Int32) + a1) 123 = true then if a2 ≤ ((u 1) ((5 : Int32) + a1).toNatClampNeg) then ((d_M_starts u).bind fun zr9 => (d_M_gives zr9 a1 a2).bind fun zr11 => (d_M_settles zr11).bind fun zr13 => some (((zr13 1) (16 : Int32).toNatClampNeg), zr13)) else (some ((-2 : Int32), u)) else none))
set_option maxRecDepth 100000 in
set_option maxHeartbeats 4000000 in
theorem v_M_offer (u : (Nat → Nat → Int32)) (a1 : Int32) (a2 : Int32) (w : Nat → Int64) {r : Int32 × (Nat → Nat → Int32)} (hd : d_M_offer u a1 a2 = some r) : Vd RX7 "offer" cX7_offer 3 (some .int) (rm 2) (ab_eq (some (.int r.1)) (h_M r.2 w)) 0 0 0 0 0 [(0, .ref 0), (1, .int a1), (2, .int a2)] [] (h_M u w) := by
  unfold d_M_offer at hd
  refine v_aload_n dX7_offer_0 rfl ?_
  refine v_iload_n dX7_offer_1 rfl ?_
  obtain ⟨zr1, zh2, hd⟩ := g_bind hd
  refine v_cI (dy := 1) (st := []) (st2 := [.int zr1]) dX7_offer_2 mv_X7_176 (m_M_isHouse u a1 w zh2) rfl rfl rfl rfl rfl (by decide) (by decide) rfl rfl ?_
  refine v_if_eq (tgt := 20) dX7_offer_5 (by decide) (fun zc3 => ?_) (fun zc3 => ?_)
  · have hd := g_t hd zc3
    refine v_iconst dX7_offer_20 ic_m1 ?_
    obtain rfl := Option.some.inj hd
    exact v_iretE dX7_offer_21 rfl rfl rfl rfl
  · have hd := g_f hd zc3
    refine v_iload_n dX7_offer_8 rfl ?_
    refine v_i2l dX7_offer_9 ?_
    refine v_lconst (v := 1) dX7_offer_10 rfl ?_
    refine v_ldc2 dX7_offer_11 kc_X7_192 ?_
    obtain ⟨zr4, zh5, hd⟩ := g_bind hd
    refine v_cS (dy := 0) (st := []) (st2 := [.int zr4]) (h2 := (h_M u w)) [] dX7_offer_14 mz_X7_72 (m_P_in a2.toInt64 (1 : Int64) (20 : Int64) zh5) rfl rfl rfl rfl rfl rfl (by decide) (by decide) rfl rfl rfl ?_
    refine v_if_ne (tgt := 22) dX7_offer_17 (by decide) (fun zc6 => ?_) (fun zc6 => ?_)
    · have hd := g_f hd zc6
      refine v_aload_n dX7_offer_22 rfl ?_
      refine v_get (v := .ref 1) dX7_offer_23 fl_X7_7 rfl rfl ?_
      refine v_iconst dX7_offer_26 ic_5 ?_
      refine v_iload_n dX7_offer_27 rfl ?_
      refine v_iadd dX7_offer_28 ?_
      obtain ⟨zg7, hd⟩ := g_b hd
      refine v_iald (f := (u 1)) dX7_offer_29 rfl (gi_in zg7) ?_
      refine v_iload_n dX7_offer_30 rfl ?_
      refine v_icmp_ge (tgt := 37) dX7_offer_31 (by decide) (fun zc8 => ?_) (fun zc8 => ?_)
      · have hd := g_t hd zc8
        refine v_aload_n dX7_offer_37 rfl ?_
        obtain ⟨zr9, zh10, hd⟩ := g_bind hd
        refine v_cI (dy := 0) (st := []) (st2 := []) dX7_offer_38 mv_X7_170 (m_M_starts u w zh10) rfl rfl rfl rfl rfl (by decide) (by decide) rfl rfl ?_
        refine v_aload_n dX7_offer_41 rfl ?_
        refine v_iload_n dX7_offer_42 rfl ?_
        refine v_iload_n dX7_offer_43 rfl ?_
        obtain ⟨zr11, zh12, hd⟩ := g_bind hd
        refine v_cI (dy := 0) (st := []) (st2 := []) dX7_offer_44 mv_X7_157 (m_M_gives zr9 a1 a2 w zh12) rfl rfl rfl rfl rfl (by decide) (by decide) rfl rfl ?_
        refine v_aload_n dX7_offer_47 rfl ?_
        obtain ⟨zr13, zh14, hd⟩ := g_bind hd
        refine v_cI (dy := 0) (st := []) (st2 := []) dX7_offer_48 mv_X7_198 (m_M_settles zr11 w zh14) rfl rfl rfl rfl rfl (by decide) (by decide) rfl rfl ?_
        refine v_aload_n dX7_offer_51 rfl ?_
        refine v_get (v := .ref 1) dX7_offer_52 fl_X7_7 rfl rfl ?_
        refine v_bipush dX7_offer_55 bp_16 ?_
        refine v_iald (f := (zr13 1)) dX7_offer_57 rfl gl_16_123 ?_
        obtain rfl := Option.some.inj hd
        exact v_iretE dX7_offer_58 rfl rfl rfl rfl
      · have hd := g_f hd zc8
        refine v_bipush dX7_offer_34 bp_m2 ?_
        obtain rfl := Option.some.inj hd
        exact v_iretE dX7_offer_36 rfl rfl rfl rfl
    · have hd := g_t hd zc6
      refine v_iconst dX7_offer_20 ic_m1 ?_
      obtain rfl := Option.some.inj hd
      exact v_iretE dX7_offer_21 rfl rfl rfl rfl
theorem m_M_offer (u : (Nat → Nat → Int32)) (a1 : Int32) (a2 : Int32) (w : Nat → Int64) {r : Int32 × (Nat → Nat → Int32)} (hd : d_M_offer u a1 a2 = some r) : Mt yX7_offer cX7_offer 3 (some .int) (rm 2) [.ref 0, .int a1, .int a2] (h_M u w) (ab_eq (some (.int r.1)) (h_M r.2 w)) := Mt.of (by decide +kernel) (fun _ _ _ => trivial) (Nat.le_of_ble_eq_true rfl) (v_M_offer u a1 a2 w hd)
def d_M_go (u : (Nat → Nat → Int32)) (a1 : Int32) : Option (Int32 × (Nat → Nat → Int32)) := (d_P_in a1.toInt64 (0 : Int64) (30 : Int64)).bind fun zr1 => if zr1 = 0 then (some ((-1 : Int32), u)) else (if (((u 1) (19 : Int32).toNatClampNeg) + a1) ≤ (999 : Int32) then (dl ((u 1) (20 : Int32).toNatClampNeg) fun zy5 => (d_M_starts u).bind fun zr7 => (d_M_nightsGo zr7 a1).bind fun zr9 => (d_M_settles zr9).bind fun zr11 => some ((((zr11 1) (20 : Int32).toNatClampNeg) - zy5), zr11)) else (some ((-3 : Int32), u)))
set_option maxRecDepth 100000 in
set_option maxHeartbeats 4000000 in
theorem v_M_go (u : (Nat → Nat → Int32)) (a1 : Int32) (w : Nat → Int64) {r : Int32 × (Nat → Nat → Int32)} (hd : d_M_go u a1 = some r) : Vd RX7 "go" cX7_go 3 (some .int) (rm 5) (ab_eq (some (.int r.1)) (h_M r.2 w)) 0 0 0 0 0 [(0, .ref 0), (1, .int a1)] [] (h_M u w) := by
  unfold d_M_go at hd
  refine v_iload_n dX7_go_0 rfl ?_
  refine v_i2l dX7_go_1 ?_
  refine v_lconst (v := 0) dX7_go_2 rfl ?_
  refine v_ldc2 dX7_go_3 kc_X7_201 ?_
  obtain ⟨zr1, zh2, hd⟩ := g_bind hd
  refine v_cS (dy := 0) (st := []) (st2 := [.int zr1]) (h2 := (h_M u w)) [] dX7_go_6 mz_X7_72 (m_P_in a1.toInt64 (0 : Int64) (30 : Int64) zh2) rfl rfl rfl rfl rfl rfl (by decide) (by decide) rfl rfl rfl ?_
  refine v_if_ne (tgt := 14) dX7_go_9 (by decide) (fun zc3 => ?_) (fun zc3 => ?_)
  · have hd := g_f hd zc3
    refine v_aload_n dX7_go_14 rfl ?_
    refine v_get (v := .ref 1) dX7_go_15 fl_X7_7 rfl rfl ?_
    refine v_bipush dX7_go_18 bp_19 ?_
    refine v_iald (f := (u 1)) dX7_go_20 rfl gl_19_123 ?_
    refine v_iload_n dX7_go_21 rfl ?_
    refine v_iadd dX7_go_22 ?_
    refine v_sipush dX7_go_23 sp_999 ?_
    refine v_icmp_le (tgt := 32) dX7_go_26 (by decide) (fun zc4 => ?_) (fun zc4 => ?_)
    · have hd := g_t hd zc4
      refine v_aload_n dX7_go_32 rfl ?_
      refine v_get (v := .ref 1) dX7_go_33 fl_X7_7 rfl rfl ?_
      refine v_bipush dX7_go_36 bp_20 ?_
      refine v_iald (f := (u 1)) dX7_go_38 rfl gl_20_123 ?_
      refine v_topi (fun zy5 ze6 => ?_)
      have hd := dl_n hd zy5 ze6
      refine v_istore_n (i := 2) (L2 := [(2, .int zy5), (0, .ref 0), (1, .int a1)]) dX7_go_39 rfl (Nat.le_of_ble_eq_true rfl) rfl ?_
      refine v_aload_n dX7_go_40 rfl ?_
      obtain ⟨zr7, zh8, hd⟩ := g_bind hd
      refine v_cI (dy := 0) (st := []) (st2 := []) dX7_go_41 mv_X7_170 (m_M_starts u w zh8) rfl rfl rfl rfl rfl (by decide) (by decide) rfl rfl ?_
      refine v_aload_n dX7_go_44 rfl ?_
      refine v_iload_n dX7_go_45 rfl ?_
      obtain ⟨zr9, zh10, hd⟩ := g_bind hd
      refine v_cI (dy := 4) (st := []) (st2 := []) dX7_go_46 mv_X7_167 (m_M_nightsGo zr7 a1 w zh10) rfl rfl rfl rfl rfl (by decide) (by decide) rfl rfl ?_
      refine v_aload_n dX7_go_49 rfl ?_
      obtain ⟨zr11, zh12, hd⟩ := g_bind hd
      refine v_cI (dy := 0) (st := []) (st2 := []) dX7_go_50 mv_X7_198 (m_M_settles zr9 w zh12) rfl rfl rfl rfl rfl (by decide) (by decide) rfl rfl ?_
      refine v_aload_n dX7_go_53 rfl ?_
      refine v_get (v := .ref 1) dX7_go_54 fl_X7_7 rfl rfl ?_
      refine v_bipush dX7_go_57 bp_20 ?_
      refine v_iald (f := (zr11 1)) dX7_go_59 rfl gl_20_123 ?_
      refine v_iload_n dX7_go_60 rfl ?_
      refine v_isub dX7_go_61 ?_
      obtain rfl := Option.some.inj hd
      exact v_iretE dX7_go_62 rfl rfl rfl rfl
    · have hd := g_f hd zc4
      refine v_bipush dX7_go_29 bp_m3 ?_
      obtain rfl := Option.some.inj hd
      exact v_iretE dX7_go_31 rfl rfl rfl rfl
  · have hd := g_t hd zc3
    refine v_iconst dX7_go_12 ic_m1 ?_
    obtain rfl := Option.some.inj hd
    exact v_iretE dX7_go_13 rfl rfl rfl rfl
theorem m_M_go (u : (Nat → Nat → Int32)) (a1 : Int32) (w : Nat → Int64) {r : Int32 × (Nat → Nat → Int32)} (hd : d_M_go u a1 = some r) : Mt yX7_go cX7_go 3 (some .int) (rm 5) [.ref 0, .int a1] (h_M u w) (ab_eq (some (.int r.1)) (h_M r.2 w)) := Mt.of (by decide +kernel) (fun _ _ _ => trivial) (Nat.le_of_ble_eq_true rfl) (v_M_go u a1 w hd)

def d_M_runs_75 (k36 : (Nat → Nat → Int32) → Int32 → Int32 → Int32 → Int32 → Option (Int32 × (Nat → Nat → Int32))) (u : (Nat → Nat → Int32)) (x1 : Int32) (x2 : Int32) (x4 : Int32) (s0 : Int32) : Option (Int32 × (Nat → Nat → Int32)) := dl (x4 + (1 : Int32)) fun zy18 => k36 u x1 x2 s0 zy18
set_option maxRecDepth 100000 in
set_option maxHeartbeats 4000000 in
theorem v_M_runs_75 (w : Nat → Int64) {r : Int32 × (Nat → Nat → Int32)} (k36 : (Nat → Nat → Int32) → Int32 → Int32 → Int32 → Int32 → Option (Int32 × (Nat → Nat → Int32))) (hk36 : ∀ (u : (Nat → Nat → Int32)) (x1 : Int32) (x2 : Int32) (x3 : Int32) (x4 : Int32), k36 u x1 x2 x3 x4 = some r → Vd RX7 "runs" cX7_runs 5 (some .int) (rm 4) (ab_eq (some (.int r.1)) (h_M r.2 w)) 0 0 0 0 36 [(0, .ref 0), (1, .int x1), (2, .int x2), (3, .int x3), (4, .int x4)] [] (h_M u w)) (u : (Nat → Nat → Int32)) (x1 : Int32) (x2 : Int32) (x4 : Int32) (s0 : Int32) (hd : d_M_runs_75 k36 u x1 x2 x4 s0 = some r) : Vd RX7 "runs" cX7_runs 5 (some .int) (rm 4) (ab_eq (some (.int r.1)) (h_M r.2 w)) 0 0 0 0 75 [(0, .ref 0), (1, .int x1), (2, .int x2), (4, .int x4)] [.int s0] (h_M u w) := by
  unfold d_M_runs_75 at hd
  refine v_istore_n (i := 3) (L2 := [(3, .int s0), (0, .ref 0), (1, .int x1), (2, .int x2), (4, .int x4)]) dX7_runs_75 rfl (Nat.le_of_ble_eq_true rfl) rfl ?_
  obtain ⟨zy18, ze19⟩ : ∃ z : Int32, z = (x4 + (1 : Int32)) := ⟨_, rfl⟩
  have hd := dl_n hd zy18 ze19
  refine v_iinc (v := zy18) (L2 := [(4, .int zy18), (3, .int s0), (0, .ref 0), (1, .int x1), (2, .int x2)]) dX7_runs_76 rfl (by rw [ic_1]; exact ze19.symm) (Nat.le_of_ble_eq_true rfl) rfl ?_
  refine v_goto (tgt := 36) dX7_runs_79 (by decide) ?_
  refine v_loc [2, 3, 4, 1, 0] rfl ?_
  exact hk36 u x1 x2 s0 zy18 hd

def d_M_runs_74 (k36 : (Nat → Nat → Int32) → Int32 → Int32 → Int32 → Int32 → Option (Int32 × (Nat → Nat → Int32))) (u : (Nat → Nat → Int32)) (x1 : Int32) (x2 : Int32) (x3 : Int32) (x4 : Int32) : Option (Int32 × (Nat → Nat → Int32)) := d_M_runs_75 k36 u x1 x2 x4 x3
set_option maxRecDepth 100000 in
set_option maxHeartbeats 4000000 in
theorem v_M_runs_74 (w : Nat → Int64) {r : Int32 × (Nat → Nat → Int32)} (k36 : (Nat → Nat → Int32) → Int32 → Int32 → Int32 → Int32 → Option (Int32 × (Nat → Nat → Int32))) (hk36 : ∀ (u : (Nat → Nat → Int32)) (x1 : Int32) (x2 : Int32) (x3 : Int32) (x4 : Int32), k36 u x1 x2 x3 x4 = some r → Vd RX7 "runs" cX7_runs 5 (some .int) (rm 4) (ab_eq (some (.int r.1)) (h_M r.2 w)) 0 0 0 0 36 [(0, .ref 0), (1, .int x1), (2, .int x2), (3, .int x3), (4, .int x4)] [] (h_M u w)) (u : (Nat → Nat → Int32)) (x1 : Int32) (x2 : Int32) (x3 : Int32) (x4 : Int32) (hd : d_M_runs_74 k36 u x1 x2 x3 x4 = some r) : Vd RX7 "runs" cX7_runs 5 (some .int) (rm 4) (ab_eq (some (.int r.1)) (h_M r.2 w)) 0 0 0 0 74 [(0, .ref 0), (1, .int x1), (2, .int x2), (3, .int x3), (4, .int x4)] [] (h_M u w) := by
  unfold d_M_runs_74 at hd
  refine v_iload_n dX7_runs_74 rfl ?_
  refine v_loc [0, 1, 2, 4] rfl ?_
  exact v_M_runs_75 w k36 (hk36) u x1 x2 x4 x3 hd

def d_M_runs_36  : Nat → (Nat → Nat → Int32) → Int32 → Int32 → Int32 → Int32 → Option (Int32 × (Nat → Nat → Int32))
  | 0, _, _, _, _, _ => none
  | f + 1, u, x1, x2, x3, x4 => if x1 < x4 then (if x2 = (0 : Int32) then (some ((((u 2) (20 : Int32).toNatClampNeg) - ((u 1) (20 : Int32).toNatClampNeg)), u)) else if x2 = (1 : Int32) then (some ((((u 2) (21 : Int32).toNatClampNeg) - ((u 1) (21 : Int32).toNatClampNeg)), u)) else if x2 = (2 : Int32) then (some (((u 2) (16 : Int32).toNatClampNeg), u)) else if x2 = (3 : Int32) then (some (((u 2) (17 : Int32).toNatClampNeg), u)) else if x2 = (4 : Int32) then (some (((u 2) (15 : Int32).toNatClampNeg), u)) else (some (x3, u))) else ((d_M_nightGoes u).bind fun zr15 => if ((zr15 2) (20 : Int32).toNatClampNeg) ≤ ((zr15 1) (20 : Int32).toNatClampNeg) then (d_M_runs_74 (d_M_runs_36 f) zr15 x1 x2 x3 x4) else (if x3 = (-4 : Int32) then (d_M_runs_75 (d_M_runs_36 f) zr15 x1 x2 x4 x4) else (d_M_runs_74 (d_M_runs_36 f) zr15 x1 x2 x3 x4)))
set_option maxRecDepth 100000 in
set_option maxHeartbeats 4000000 in
theorem v_M_runs_36 (w : Nat → Int64) {r : Int32 × (Nat → Nat → Int32)}  : ∀ (f : Nat) (u : (Nat → Nat → Int32)) (x1 : Int32) (x2 : Int32) (x3 : Int32) (x4 : Int32), d_M_runs_36  f u x1 x2 x3 x4 = some r → Vd RX7 "runs" cX7_runs 5 (some .int) (rm 4) (ab_eq (some (.int r.1)) (h_M r.2 w)) 0 0 0 0 36 [(0, .ref 0), (1, .int x1), (2, .int x2), (3, .int x3), (4, .int x4)] [] (h_M u w) := by
  intro f
  induction f with
  | zero =>
    intro u x1 x2 x3 x4 hd
    rw [d_M_runs_36] at hd
    cases hd
  | succ f ih =>
    intro u x1 x2 x3 x4 hd
    rw [d_M_runs_36] at hd
    refine v_iload dX7_runs_36 rfl ?_
    refine v_iload_n dX7_runs_38 rfl ?_
    refine v_icmp_gt (tgt := 82) dX7_runs_39 (by decide) (fun zc9 => ?_) (fun zc9 => ?_)
    · have hd := g_t hd zc9
      refine v_iload_n dX7_runs_82 rfl ?_
      by_cases zc10 : x2 = (0 : Int32)
      · have hd := g_t hd zc10
        refine v_tIn (0 : Int32) (tgt := 116) dX7_runs_83 zc10 (by decide) (by decide) rfl (by decide) ?_
        refine v_aload_n dX7_runs_116 rfl ?_
        refine v_get (v := .ref 2) dX7_runs_117 fl_X7_13 rfl rfl ?_
        refine v_bipush dX7_runs_120 bp_20 ?_
        refine v_iald (f := (u 2)) dX7_runs_122 rfl gl_20_41 ?_
        refine v_aload_n dX7_runs_123 rfl ?_
        refine v_get (v := .ref 1) dX7_runs_124 fl_X7_7 rfl rfl ?_
        refine v_bipush dX7_runs_127 bp_20 ?_
        refine v_iald (f := (u 1)) dX7_runs_129 rfl gl_20_123 ?_
        refine v_isub dX7_runs_130 ?_
        obtain rfl := Option.some.inj hd
        exact v_iretE dX7_runs_131 rfl rfl rfl rfl
      have hd := g_f hd zc10
      by_cases zc11 : x2 = (1 : Int32)
      · have hd := g_t hd zc11
        refine v_tIn (1 : Int32) (tgt := 132) dX7_runs_83 zc11 (by decide) (by decide) rfl (by decide) ?_
        refine v_aload_n dX7_runs_132 rfl ?_
        refine v_get (v := .ref 2) dX7_runs_133 fl_X7_13 rfl rfl ?_
        refine v_bipush dX7_runs_136 bp_21 ?_
        refine v_iald (f := (u 2)) dX7_runs_138 rfl gl_21_41 ?_
        refine v_aload_n dX7_runs_139 rfl ?_
        refine v_get (v := .ref 1) dX7_runs_140 fl_X7_7 rfl rfl ?_
        refine v_bipush dX7_runs_143 bp_21 ?_
        refine v_iald (f := (u 1)) dX7_runs_145 rfl gl_21_123 ?_
        refine v_isub dX7_runs_146 ?_
        obtain rfl := Option.some.inj hd
        exact v_iretE dX7_runs_147 rfl rfl rfl rfl
      have hd := g_f hd zc11
      by_cases zc12 : x2 = (2 : Int32)
      · have hd := g_t hd zc12
        refine v_tIn (2 : Int32) (tgt := 148) dX7_runs_83 zc12 (by decide) (by decide) rfl (by decide) ?_
        refine v_aload_n dX7_runs_148 rfl ?_
        refine v_get (v := .ref 2) dX7_runs_149 fl_X7_13 rfl rfl ?_
        refine v_bipush dX7_runs_152 bp_16 ?_
        refine v_iald (f := (u 2)) dX7_runs_154 rfl gl_16_41 ?_
        obtain rfl := Option.some.inj hd
        exact v_iretE dX7_runs_155 rfl rfl rfl rfl
      have hd := g_f hd zc12
      by_cases zc13 : x2 = (3 : Int32)
      · have hd := g_t hd zc13
        refine v_tIn (3 : Int32) (tgt := 156) dX7_runs_83 zc13 (by decide) (by decide) rfl (by decide) ?_
        refine v_aload_n dX7_runs_156 rfl ?_
        refine v_get (v := .ref 2) dX7_runs_157 fl_X7_13 rfl rfl ?_
        refine v_bipush dX7_runs_160 bp_17 ?_
        refine v_iald (f := (u 2)) dX7_runs_162 rfl gl_17_41 ?_
        obtain rfl := Option.some.inj hd
        exact v_iretE dX7_runs_163 rfl rfl rfl rfl
      have hd := g_f hd zc13
      by_cases zc14 : x2 = (4 : Int32)
      · have hd := g_t hd zc14
        refine v_tIn (4 : Int32) (tgt := 164) dX7_runs_83 zc14 (by decide) (by decide) rfl (by decide) ?_
        refine v_aload_n dX7_runs_164 rfl ?_
        refine v_get (v := .ref 2) dX7_runs_165 fl_X7_13 rfl rfl ?_
        refine v_bipush dX7_runs_168 bp_15 ?_
        refine v_iald (f := (u 2)) dX7_runs_170 rfl gl_15_41 ?_
        obtain rfl := Option.some.inj hd
        exact v_iretE dX7_runs_171 rfl rfl rfl rfl
      have hd := g_f hd zc14
      refine v_tOut (tgt := 172) dX7_runs_83 (by have q0 := lv_neT (a := 0) zc10 rfl; have q1 := lv_neT (a := 1) zc11 rfl; have q2 := lv_neT (a := 2) zc12 rfl; have q3 := lv_neT (a := 3) zc13 rfl; have q4 := lv_neT (a := 4) zc14 rfl; omega) (by decide) ?_
      refine v_iload_n dX7_runs_172 rfl ?_
      obtain rfl := Option.some.inj hd
      exact v_iretE dX7_runs_173 rfl rfl rfl rfl
    · have hd := g_f hd zc9
      refine v_aload_n dX7_runs_42 rfl ?_
      obtain ⟨zr15, zh16, hd⟩ := g_bind hd
      refine v_cI (dy := 3) (st := []) (st2 := []) dX7_runs_43 mv_X7_164 (m_M_nightGoes u w zh16) rfl rfl rfl rfl rfl (by decide) (by decide) rfl rfl ?_
      refine v_aload_n dX7_runs_46 rfl ?_
      refine v_get (v := .ref 2) dX7_runs_47 fl_X7_13 rfl rfl ?_
      refine v_bipush dX7_runs_50 bp_20 ?_
      refine v_iald (f := (zr15 2)) dX7_runs_52 rfl gl_20_41 ?_
      refine v_aload_n dX7_runs_53 rfl ?_
      refine v_get (v := .ref 1) dX7_runs_54 fl_X7_7 rfl rfl ?_
      refine v_bipush dX7_runs_57 bp_20 ?_
      refine v_iald (f := (zr15 1)) dX7_runs_59 rfl gl_20_123 ?_
      refine v_icmp_le (tgt := 74) dX7_runs_60 (by decide) (fun zc17 => ?_) (fun zc17 => ?_)
      · have hd := g_t hd zc17
        exact v_M_runs_74 w (d_M_runs_36 f) (ih) zr15 x1 x2 x3 x4 hd
      · have hd := g_f hd zc17
        refine v_iload_n dX7_runs_63 rfl ?_
        refine v_bipush dX7_runs_64 bp_m4 ?_
        refine v_icmp_ne (tgt := 74) dX7_runs_66 (by decide) (fun zc20 => ?_) (fun zc20 => ?_)
        · have hd := g_f hd zc20
          exact v_M_runs_74 w (d_M_runs_36 f) (ih) zr15 x1 x2 x3 x4 hd
        · have hd := g_t hd zc20
          refine v_iload dX7_runs_69 rfl ?_
          refine v_goto (tgt := 75) dX7_runs_71 (by decide) ?_
          refine v_loc [0, 1, 2, 4] rfl ?_
          exact v_M_runs_75 w (d_M_runs_36 f) (ih) zr15 x1 x2 x4 x4 hd
def d_M_runs (u : (Nat → Nat → Int32)) (a1 : Int32) (a2 : Int32) : Option (Int32 × (Nat → Nat → Int32)) := (d_P_in a1.toInt64 (0 : Int64) (30 : Int64)).bind fun zr1 => if zr1 = 0 then (some ((-1 : Int32), u)) else ((d_P_in a2.toInt64 (0 : Int64) (5 : Int64)).bind fun zr4 => if zr4 = 0 then (some ((-1 : Int32), u)) else ((d_M_starts u).bind fun zr7 => d_M_runs_36 FU zr7 a1 a2 (-4 : Int32) (1 : Int32)))
set_option maxRecDepth 100000 in
set_option maxHeartbeats 4000000 in
theorem v_M_runs (u : (Nat → Nat → Int32)) (a1 : Int32) (a2 : Int32) (w : Nat → Int64) {r : Int32 × (Nat → Nat → Int32)} (hd : d_M_runs u a1 a2 = some r) : Vd RX7 "runs" cX7_runs 5 (some .int) (rm 4) (ab_eq (some (.int r.1)) (h_M r.2 w)) 0 0 0 0 0 [(0, .ref 0), (1, .int a1), (2, .int a2)] [] (h_M u w) := by
  unfold d_M_runs at hd
  refine v_iload_n dX7_runs_0 rfl ?_
  refine v_i2l dX7_runs_1 ?_
  refine v_lconst (v := 0) dX7_runs_2 rfl ?_
  refine v_ldc2 dX7_runs_3 kc_X7_201 ?_
  obtain ⟨zr1, zh2, hd⟩ := g_bind hd
  refine v_cS (dy := 0) (st := []) (st2 := [.int zr1]) (h2 := (h_M u w)) [] dX7_runs_6 mz_X7_72 (m_P_in a1.toInt64 (0 : Int64) (30 : Int64) zh2) rfl rfl rfl rfl rfl rfl (by decide) (by decide) rfl rfl rfl ?_
  refine v_if_eq (tgt := 24) dX7_runs_9 (by decide) (fun zc3 => ?_) (fun zc3 => ?_)
  · have hd := g_t hd zc3
    refine v_iconst dX7_runs_24 ic_m1 ?_
    obtain rfl := Option.some.inj hd
    exact v_iretE dX7_runs_25 rfl rfl rfl rfl
  · have hd := g_f hd zc3
    refine v_iload_n dX7_runs_12 rfl ?_
    refine v_i2l dX7_runs_13 ?_
    refine v_lconst (v := 0) dX7_runs_14 rfl ?_
    refine v_ldc2 dX7_runs_15 kc_X7_203 ?_
    obtain ⟨zr4, zh5, hd⟩ := g_bind hd
    refine v_cS (dy := 0) (st := []) (st2 := [.int zr4]) (h2 := (h_M u w)) [] dX7_runs_18 mz_X7_72 (m_P_in a2.toInt64 (0 : Int64) (5 : Int64) zh5) rfl rfl rfl rfl rfl rfl (by decide) (by decide) rfl rfl rfl ?_
    refine v_if_ne (tgt := 26) dX7_runs_21 (by decide) (fun zc6 => ?_) (fun zc6 => ?_)
    · have hd := g_f hd zc6
      refine v_bipush dX7_runs_26 bp_m4 ?_
      refine v_istore_n (i := 3) (L2 := [(3, .int (-4 : Int32)), (0, .ref 0), (1, .int a1), (2, .int a2)]) dX7_runs_28 rfl (Nat.le_of_ble_eq_true rfl) rfl ?_
      refine v_aload_n dX7_runs_29 rfl ?_
      obtain ⟨zr7, zh8, hd⟩ := g_bind hd
      refine v_cI (dy := 0) (st := []) (st2 := []) dX7_runs_30 mv_X7_170 (m_M_starts u w zh8) rfl rfl rfl rfl rfl (by decide) (by decide) rfl rfl ?_
      refine v_iconst dX7_runs_33 ic_1 ?_
      refine v_istore (i := 4) (L2 := [(4, .int (1 : Int32)), (3, .int (-4 : Int32)), (0, .ref 0), (1, .int a1), (2, .int a2)]) dX7_runs_34 (Nat.le_of_ble_eq_true rfl) rfl ?_
      refine v_loc [2, 3, 4, 1, 0] rfl ?_
      exact v_M_runs_36 w FU zr7 a1 a2 (-4 : Int32) (1 : Int32) hd
    · have hd := g_t hd zc6
      refine v_iconst dX7_runs_24 ic_m1 ?_
      obtain rfl := Option.some.inj hd
      exact v_iretE dX7_runs_25 rfl rfl rfl rfl
theorem m_M_runs (u : (Nat → Nat → Int32)) (a1 : Int32) (a2 : Int32) (w : Nat → Int64) {r : Int32 × (Nat → Nat → Int32)} (hd : d_M_runs u a1 a2 = some r) : Mt yX7_runs cX7_runs 5 (some .int) (rm 4) [.ref 0, .int a1, .int a2] (h_M u w) (ab_eq (some (.int r.1)) (h_M r.2 w)) := Mt.of (by decide +kernel) (fun _ _ _ => trivial) (Nat.le_of_ble_eq_true rfl) (v_M_runs u a1 a2 w hd)
def d_M_ahead (u : (Nat → Nat → Int32)) (a1 : Int32) (a2 : Int32) : Option (Int32 × (Nat → Nat → Int32)) := (d_M_isHouse u a1).bind fun zr1 => if zr1 = 0 then (some ((-1 : Int32), u)) else ((d_P_in a2.toInt64 (0 : Int64) (30 : Int64)).bind fun zr4 => if zr4 = 0 then (some ((-1 : Int32), u)) else ((d_M_starts u).bind fun zr7 => (d_M_nightsGo zr7 a2).bind fun zr9 => if gi ((5 : Int32) + a1) 41 = true then some (((zr9 2) ((5 : Int32) + a1).toNatClampNeg), zr9) else none))
set_option maxRecDepth 100000 in
set_option maxHeartbeats 4000000 in
theorem v_M_ahead (u : (Nat → Nat → Int32)) (a1 : Int32) (a2 : Int32) (w : Nat → Int64) {r : Int32 × (Nat → Nat → Int32)} (hd : d_M_ahead u a1 a2 = some r) : Vd RX7 "ahead" cX7_ahead 3 (some .int) (rm 5) (ab_eq (some (.int r.1)) (h_M r.2 w)) 0 0 0 0 0 [(0, .ref 0), (1, .int a1), (2, .int a2)] [] (h_M u w) := by
  unfold d_M_ahead at hd
  refine v_aload_n dX7_ahead_0 rfl ?_
  refine v_iload_n dX7_ahead_1 rfl ?_
  obtain ⟨zr1, zh2, hd⟩ := g_bind hd
  refine v_cI (dy := 1) (st := []) (st2 := [.int zr1]) dX7_ahead_2 mv_X7_176 (m_M_isHouse u a1 w zh2) rfl rfl rfl rfl rfl (by decide) (by decide) rfl rfl ?_
  refine v_if_eq (tgt := 20) dX7_ahead_5 (by decide) (fun zc3 => ?_) (fun zc3 => ?_)
  · have hd := g_t hd zc3
    refine v_iconst dX7_ahead_20 ic_m1 ?_
    obtain rfl := Option.some.inj hd
    exact v_iretE dX7_ahead_21 rfl rfl rfl rfl
  · have hd := g_f hd zc3
    refine v_iload_n dX7_ahead_8 rfl ?_
    refine v_i2l dX7_ahead_9 ?_
    refine v_lconst (v := 0) dX7_ahead_10 rfl ?_
    refine v_ldc2 dX7_ahead_11 kc_X7_201 ?_
    obtain ⟨zr4, zh5, hd⟩ := g_bind hd
    refine v_cS (dy := 0) (st := []) (st2 := [.int zr4]) (h2 := (h_M u w)) [] dX7_ahead_14 mz_X7_72 (m_P_in a2.toInt64 (0 : Int64) (30 : Int64) zh5) rfl rfl rfl rfl rfl rfl (by decide) (by decide) rfl rfl rfl ?_
    refine v_if_ne (tgt := 22) dX7_ahead_17 (by decide) (fun zc6 => ?_) (fun zc6 => ?_)
    · have hd := g_f hd zc6
      refine v_aload_n dX7_ahead_22 rfl ?_
      obtain ⟨zr7, zh8, hd⟩ := g_bind hd
      refine v_cI (dy := 0) (st := []) (st2 := []) dX7_ahead_23 mv_X7_170 (m_M_starts u w zh8) rfl rfl rfl rfl rfl (by decide) (by decide) rfl rfl ?_
      refine v_aload_n dX7_ahead_26 rfl ?_
      refine v_iload_n dX7_ahead_27 rfl ?_
      obtain ⟨zr9, zh10, hd⟩ := g_bind hd
      refine v_cI (dy := 4) (st := []) (st2 := []) dX7_ahead_28 mv_X7_167 (m_M_nightsGo zr7 a2 w zh10) rfl rfl rfl rfl rfl (by decide) (by decide) rfl rfl ?_
      refine v_aload_n dX7_ahead_31 rfl ?_
      refine v_get (v := .ref 2) dX7_ahead_32 fl_X7_13 rfl rfl ?_
      refine v_iconst dX7_ahead_35 ic_5 ?_
      refine v_iload_n dX7_ahead_36 rfl ?_
      refine v_iadd dX7_ahead_37 ?_
      obtain ⟨zg11, hd⟩ := g_b hd
      refine v_iald (f := (zr9 2)) dX7_ahead_38 rfl (gi_in zg11) ?_
      obtain rfl := Option.some.inj hd
      exact v_iretE dX7_ahead_39 rfl rfl rfl rfl
    · have hd := g_t hd zc6
      refine v_iconst dX7_ahead_20 ic_m1 ?_
      obtain rfl := Option.some.inj hd
      exact v_iretE dX7_ahead_21 rfl rfl rfl rfl
theorem m_M_ahead (u : (Nat → Nat → Int32)) (a1 : Int32) (a2 : Int32) (w : Nat → Int64) {r : Int32 × (Nat → Nat → Int32)} (hd : d_M_ahead u a1 a2 = some r) : Mt yX7_ahead cX7_ahead 3 (some .int) (rm 5) [.ref 0, .int a1, .int a2] (h_M u w) (ab_eq (some (.int r.1)) (h_M r.2 w)) := Mt.of (by decide +kernel) (fun _ _ _ => trivial) (Nat.le_of_ble_eq_true rfl) (v_M_ahead u a1 a2 w hd)

def d_M_bare_16  : Nat → (Nat → Nat → Int32) → Int32 → Int32 → Option (Int32 × (Nat → Nat → Int32))
  | 0, _, _, _ => none
  | f + 1, u, x1, x2 => if (60 : Int32) < x2 then (some ((-4 : Int32), u)) else (if gi ((5 : Int32) + x1) 41 = true then if ((u 2) ((5 : Int32) + x1).toNatClampNeg) = 0 then (some (x2, u)) else ((d_M_nightGoes u).bind fun zr9 => dl (x2 + (1 : Int32)) fun zy11 => d_M_bare_16 f zr9 x1 zy11) else none)
set_option maxRecDepth 100000 in
set_option maxHeartbeats 4000000 in
theorem v_M_bare_16 (w : Nat → Int64) {r : Int32 × (Nat → Nat → Int32)}  : ∀ (f : Nat) (u : (Nat → Nat → Int32)) (x1 : Int32) (x2 : Int32), d_M_bare_16  f u x1 x2 = some r → Vd RX7 "bare" cX7_bare 3 (some .int) (rm 4) (ab_eq (some (.int r.1)) (h_M r.2 w)) 0 0 0 0 16 [(0, .ref 0), (1, .int x1), (2, .int x2)] [] (h_M u w) := by
  intro f
  induction f with
  | zero =>
    intro u x1 x2 hd
    rw [d_M_bare_16] at hd
    cases hd
  | succ f ih =>
    intro u x1 x2 hd
    rw [d_M_bare_16] at hd
    refine v_iload_n dX7_bare_16 rfl ?_
    refine v_bipush dX7_bare_17 bp_60 ?_
    refine v_icmp_gt (tgt := 45) dX7_bare_19 (by decide) (fun zc6 => ?_) (fun zc6 => ?_)
    · have hd := g_t hd zc6
      refine v_bipush dX7_bare_45 bp_m4 ?_
      obtain rfl := Option.some.inj hd
      exact v_iretE dX7_bare_47 rfl rfl rfl rfl
    · have hd := g_f hd zc6
      refine v_aload_n dX7_bare_22 rfl ?_
      refine v_get (v := .ref 2) dX7_bare_23 fl_X7_13 rfl rfl ?_
      refine v_iconst dX7_bare_26 ic_5 ?_
      refine v_iload_n dX7_bare_27 rfl ?_
      refine v_iadd dX7_bare_28 ?_
      obtain ⟨zg7, hd⟩ := g_b hd
      refine v_iald (f := (u 2)) dX7_bare_29 rfl (gi_in zg7) ?_
      refine v_if_ne (tgt := 35) dX7_bare_30 (by decide) (fun zc8 => ?_) (fun zc8 => ?_)
      · have hd := g_f hd zc8
        refine v_aload_n dX7_bare_35 rfl ?_
        obtain ⟨zr9, zh10, hd⟩ := g_bind hd
        refine v_cI (dy := 3) (st := []) (st2 := []) dX7_bare_36 mv_X7_164 (m_M_nightGoes u w zh10) rfl rfl rfl rfl rfl (by decide) (by decide) rfl rfl ?_
        obtain ⟨zy11, ze12⟩ : ∃ z : Int32, z = (x2 + (1 : Int32)) := ⟨_, rfl⟩
        have hd := dl_n hd zy11 ze12
        refine v_iinc (v := zy11) (L2 := [(2, .int zy11), (0, .ref 0), (1, .int x1)]) dX7_bare_39 rfl (by rw [ic_1]; exact ze12.symm) (Nat.le_of_ble_eq_true rfl) rfl ?_
        refine v_goto (tgt := 16) dX7_bare_42 (by decide) ?_
        refine v_loc [1, 2, 0] rfl ?_
        exact ih zr9 x1 zy11 hd
      · have hd := g_t hd zc8
        refine v_iload_n dX7_bare_33 rfl ?_
        obtain rfl := Option.some.inj hd
        exact v_iretE dX7_bare_34 rfl rfl rfl rfl
def d_M_bare (u : (Nat → Nat → Int32)) (a1 : Int32) : Option (Int32 × (Nat → Nat → Int32)) := (d_M_isHouse u a1).bind fun zr1 => if zr1 = 0 then (some ((-1 : Int32), u)) else ((d_M_starts u).bind fun zr4 => d_M_bare_16 FU zr4 a1 (0 : Int32))
set_option maxRecDepth 100000 in
set_option maxHeartbeats 4000000 in
theorem v_M_bare (u : (Nat → Nat → Int32)) (a1 : Int32) (w : Nat → Int64) {r : Int32 × (Nat → Nat → Int32)} (hd : d_M_bare u a1 = some r) : Vd RX7 "bare" cX7_bare 3 (some .int) (rm 4) (ab_eq (some (.int r.1)) (h_M r.2 w)) 0 0 0 0 0 [(0, .ref 0), (1, .int a1)] [] (h_M u w) := by
  unfold d_M_bare at hd
  refine v_aload_n dX7_bare_0 rfl ?_
  refine v_iload_n dX7_bare_1 rfl ?_
  obtain ⟨zr1, zh2, hd⟩ := g_bind hd
  refine v_cI (dy := 1) (st := []) (st2 := [.int zr1]) dX7_bare_2 mv_X7_176 (m_M_isHouse u a1 w zh2) rfl rfl rfl rfl rfl (by decide) (by decide) rfl rfl ?_
  refine v_if_ne (tgt := 10) dX7_bare_5 (by decide) (fun zc3 => ?_) (fun zc3 => ?_)
  · have hd := g_f hd zc3
    refine v_aload_n dX7_bare_10 rfl ?_
    obtain ⟨zr4, zh5, hd⟩ := g_bind hd
    refine v_cI (dy := 0) (st := []) (st2 := []) dX7_bare_11 mv_X7_170 (m_M_starts u w zh5) rfl rfl rfl rfl rfl (by decide) (by decide) rfl rfl ?_
    refine v_iconst dX7_bare_14 ic_0 ?_
    refine v_istore_n (i := 2) (L2 := [(2, .int (0 : Int32)), (0, .ref 0), (1, .int a1)]) dX7_bare_15 rfl (Nat.le_of_ble_eq_true rfl) rfl ?_
    refine v_loc [1, 2, 0] rfl ?_
    exact v_M_bare_16 w FU zr4 a1 (0 : Int32) hd
  · have hd := g_t hd zc3
    refine v_iconst dX7_bare_8 ic_m1 ?_
    obtain rfl := Option.some.inj hd
    exact v_iretE dX7_bare_9 rfl rfl rfl rfl
theorem m_M_bare (u : (Nat → Nat → Int32)) (a1 : Int32) (w : Nat → Int64) {r : Int32 × (Nat → Nat → Int32)} (hd : d_M_bare u a1 = some r) : Mt yX7_bare cX7_bare 3 (some .int) (rm 4) [.ref 0, .int a1] (h_M u w) (ab_eq (some (.int r.1)) (h_M r.2 w)) := Mt.of (by decide +kernel) (fun _ _ _ => trivial) (Nat.le_of_ble_eq_true rfl) (v_M_bare u a1 w hd)
def d_M_numbers (u : (Nat → Nat → Int32)) : Option Int32 := some ((1 : Int32) <<< (((2 : Int32) * (u 0 3)) &&& 31))
set_option maxRecDepth 100000 in
set_option maxHeartbeats 4000000 in
theorem v_M_numbers (u : (Nat → Nat → Int32)) (w : Nat → Int64) {r : Int32} (hd : d_M_numbers u = some r) : Vd RX7 "numbers" cX7_numbers 1 (some .int) (rm 0) (ab_eq (some (.int r)) (h_M u w)) 0 0 0 0 0 [(0, .ref 0)] [] (h_M u w) := by
  unfold d_M_numbers at hd
  refine v_iconst dX7_numbers_0 ic_1 ?_
  refine v_iconst dX7_numbers_1 ic_2 ?_
  refine v_aload_n dX7_numbers_2 rfl ?_
  refine v_get (v := .int (u 0 3)) dX7_numbers_3 fl_X7_67 rfl rfl ?_
  refine v_imul dX7_numbers_6 ?_
  refine v_ishl dX7_numbers_7 ?_
  obtain rfl := Option.some.inj hd
  exact v_iretE dX7_numbers_8 rfl rfl rfl rfl
theorem m_M_numbers (u : (Nat → Nat → Int32)) (w : Nat → Int64) {r : Int32} (hd : d_M_numbers u = some r) : Mt yX7_numbers cX7_numbers 1 (some .int) (rm 0) [.ref 0] (h_M u w) (ab_eq (some (.int r)) (h_M u w)) := Mt.of (by decide +kernel) (fun _ _ _ => trivial) (Nat.le_of_ble_eq_true rfl) (v_M_numbers u w hd)

def d_M_startsBy_13  : Nat → (Nat → Nat → Int32) → Int32 → Int32 → Option ((Nat → Nat → Int32))
  | 0, _, _, _ => none
  | f + 1, u, x2, x3 => if x3 < 0 then (some u) else (if gi ((0 : Int32) + x3) 41 = true then dl (x2 - x2 / (4 : Int32) * (4 : Int32)) fun zy7 => dl (pw u 2 ((0 : Int32) + x3).toNatClampNeg zy7) fun zu9 => dl (x2 / (4 : Int32)) fun zy11 => dl (x3 + (-1 : Int32)) fun zy13 => d_M_startsBy_13 f zu9 zy11 zy13 else none)
set_option maxRecDepth 100000 in
set_option maxHeartbeats 4000000 in
theorem v_M_startsBy_13 (w : Nat → Int64) {r : (Nat → Nat → Int32)}  : ∀ (f : Nat) (u : (Nat → Nat → Int32)) (x2 : Int32) (x3 : Int32), d_M_startsBy_13  f u x2 x3 = some r → Vd RX7 "startsBy" cX7_startsBy 4 none (rm 1) (ab_eq none (h_M r w)) 0 0 0 0 13 [(0, .ref 0), (2, .int x2), (3, .int x3)] [] (h_M u w) := by
  intro f
  induction f with
  | zero =>
    intro u x2 x3 hd
    rw [d_M_startsBy_13] at hd
    cases hd
  | succ f ih =>
    intro u x2 x3 hd
    rw [d_M_startsBy_13] at hd
    refine v_iload_n dX7_startsBy_13 rfl ?_
    refine v_if_lt (tgt := 38) dX7_startsBy_14 (by decide) (fun zc5 => ?_) (fun zc5 => ?_)
    · have hd := g_t hd zc5
      obtain rfl := Option.some.inj hd
      exact v_vretE dX7_startsBy_38 rfl rfl rfl
    · have hd := g_f hd zc5
      refine v_aload_n dX7_startsBy_17 rfl ?_
      refine v_get (v := .ref 2) dX7_startsBy_18 fl_X7_13 rfl rfl ?_
      refine v_iconst dX7_startsBy_21 ic_0 ?_
      refine v_iload_n dX7_startsBy_22 rfl ?_
      refine v_iadd dX7_startsBy_23 ?_
      refine v_iload_n dX7_startsBy_24 rfl ?_
      refine v_iconst dX7_startsBy_25 ic_4 ?_
      refine v_irem dX7_startsBy_26 nz_4 ?_
      obtain ⟨zg6, hd⟩ := g_b hd
      refine v_topi (fun zy7 ze8 => ?_)
      have hd := dl_n hd zy7 ze8
      refine v_ist (f := (u 2)) (h2 := (h_M (pw u 2 ((0 : Int32) + x3).toNatClampNeg zy7) w)) dX7_startsBy_27 rfl (gi_in zg6) rfl ?_
      refine v_nmu (F := fun z => (h_M z w)) (e := (pw u 2 ((0 : Int32) + x3).toNatClampNeg zy7)) (fun zu9 ze10 => ?_)
      have hd := dl_n hd zu9 ze10
      refine v_iload_n dX7_startsBy_28 rfl ?_
      refine v_iconst dX7_startsBy_29 ic_4 ?_
      refine v_idiv dX7_startsBy_30 nz_4 ?_
      refine v_topi (fun zy11 ze12 => ?_)
      have hd := dl_n hd zy11 ze12
      refine v_istore_n (i := 2) (L2 := [(2, .int zy11), (0, .ref 0), (3, .int x3)]) dX7_startsBy_31 rfl (Nat.le_of_ble_eq_true rfl) rfl ?_
      obtain ⟨zy13, ze14⟩ : ∃ z : Int32, z = (x3 + (-1 : Int32)) := ⟨_, rfl⟩
      have hd := dl_n hd zy13 ze14
      refine v_iinc (v := zy13) (L2 := [(3, .int zy13), (2, .int zy11), (0, .ref 0)]) dX7_startsBy_32 rfl (by rw [ic_m1]; exact ze14.symm) (Nat.le_of_ble_eq_true rfl) rfl ?_
      refine v_goto (tgt := 13) dX7_startsBy_35 (by decide) ?_
      refine v_loc [2, 1, 0] rfl ?_
      exact ih zu9 zy11 zy13 hd
def d_M_startsBy (u : (Nat → Nat → Int32)) (a1 : Int32) : Option ((Nat → Nat → Int32)) := (d_M_starts u).bind fun zr1 => dl ((zr1 0 3) - (1 : Int32)) fun zy3 => d_M_startsBy_13 FU zr1 a1 zy3
set_option maxRecDepth 100000 in
set_option maxHeartbeats 4000000 in
theorem v_M_startsBy (u : (Nat → Nat → Int32)) (a1 : Int32) (w : Nat → Int64) {r : (Nat → Nat → Int32)} (hd : d_M_startsBy u a1 = some r) : Vd RX7 "startsBy" cX7_startsBy 4 none (rm 1) (ab_eq none (h_M r w)) 0 0 0 0 0 [(0, .ref 0), (1, .int a1)] [] (h_M u w) := by
  unfold d_M_startsBy at hd
  refine v_iload_n dX7_startsBy_0 rfl ?_
  refine v_istore_n (i := 2) (L2 := [(2, .int a1), (0, .ref 0), (1, .int a1)]) dX7_startsBy_1 rfl (Nat.le_of_ble_eq_true rfl) rfl ?_
  refine v_aload_n dX7_startsBy_2 rfl ?_
  obtain ⟨zr1, zh2, hd⟩ := g_bind hd
  refine v_cI (dy := 0) (st := []) (st2 := []) dX7_startsBy_3 mv_X7_170 (m_M_starts u w zh2) rfl rfl rfl rfl rfl (by decide) (by decide) rfl rfl ?_
  refine v_aload_n dX7_startsBy_6 rfl ?_
  refine v_get (v := .int (zr1 0 3)) dX7_startsBy_7 fl_X7_67 rfl rfl ?_
  refine v_iconst dX7_startsBy_10 ic_1 ?_
  refine v_isub dX7_startsBy_11 ?_
  refine v_topi (fun zy3 ze4 => ?_)
  have hd := dl_n hd zy3 ze4
  refine v_istore_n (i := 3) (L2 := [(3, .int zy3), (2, .int a1), (0, .ref 0), (1, .int a1)]) dX7_startsBy_12 rfl (Nat.le_of_ble_eq_true rfl) rfl ?_
  refine v_loc [2, 1, 0] rfl ?_
  exact v_M_startsBy_13 w FU zr1 a1 zy3 hd
theorem m_M_startsBy (u : (Nat → Nat → Int32)) (a1 : Int32) (w : Nat → Int64) {r : (Nat → Nat → Int32)} (hd : d_M_startsBy u a1 = some r) : Mt yX7_startsBy cX7_startsBy 4 none (rm 1) [.ref 0, .int a1] (h_M u w) (ab_eq none (h_M r w)) := Mt.of (by decide +kernel) (fun _ _ _ => trivial) (Nat.le_of_ble_eq_true rfl) (v_M_startsBy u a1 w hd)

def d_M_best_73 (k38 : (Nat → Nat → Int32) → Int32 → Int32 → Int32 → Int32 → Int32 → Option (Int32 × (Nat → Nat → Int32))) (u : (Nat → Nat → Int32)) (x1 : Int32) (x2 : Int32) (x3 : Int32) (x5 : Int32) (x6 : Int32) (s0 : Int32) : Option (Int32 × (Nat → Nat → Int32)) := (d_P_lesser x6 x3).bind fun zr17 => dl (x5 + (1 : Int32)) fun zy19 => k38 u x1 x2 zr17 s0 zy19
set_option maxRecDepth 100000 in
set_option maxHeartbeats 4000000 in
theorem v_M_best_73 (w : Nat → Int64) {r : Int32 × (Nat → Nat → Int32)} (k38 : (Nat → Nat → Int32) → Int32 → Int32 → Int32 → Int32 → Int32 → Option (Int32 × (Nat → Nat → Int32))) (hk38 : ∀ (u : (Nat → Nat → Int32)) (x1 : Int32) (x2 : Int32) (x3 : Int32) (x4 : Int32) (x5 : Int32), k38 u x1 x2 x3 x4 x5 = some r → Vd RX7 "best" cX7_best 7 (some .int) (rm 6) (ab_eq (some (.int r.1)) (h_M r.2 w)) 0 0 0 0 38 [(0, .ref 0), (1, .int x1), (2, .int x2), (3, .int x3), (4, .int x4), (5, .int x5)] [] (h_M u w)) (u : (Nat → Nat → Int32)) (x1 : Int32) (x2 : Int32) (x3 : Int32) (x5 : Int32) (x6 : Int32) (s0 : Int32) (hd : d_M_best_73 k38 u x1 x2 x3 x5 x6 s0 = some r) : Vd RX7 "best" cX7_best 7 (some .int) (rm 6) (ab_eq (some (.int r.1)) (h_M r.2 w)) 0 0 0 0 73 [(0, .ref 0), (1, .int x1), (2, .int x2), (3, .int x3), (5, .int x5), (6, .int x6)] [.int s0] (h_M u w) := by
  unfold d_M_best_73 at hd
  refine v_istore (i := 4) (L2 := [(4, .int s0), (0, .ref 0), (1, .int x1), (2, .int x2), (3, .int x3), (5, .int x5), (6, .int x6)]) dX7_best_73 (Nat.le_of_ble_eq_true rfl) rfl ?_
  refine v_iload dX7_best_75 rfl ?_
  refine v_iload_n dX7_best_77 rfl ?_
  obtain ⟨zr17, zh18, hd⟩ := g_bind hd
  refine v_cS (dy := 0) (st := []) (st2 := [.int zr17]) (h2 := (h_M u w)) [] dX7_best_78 mz_X7_151 (m_P_lesser x6 x3 zh18) rfl rfl rfl rfl rfl rfl (by decide) (by decide) rfl rfl rfl ?_
  refine v_istore_n (i := 3) (L2 := [(3, .int zr17), (4, .int s0), (0, .ref 0), (1, .int x1), (2, .int x2), (5, .int x5), (6, .int x6)]) dX7_best_81 rfl (Nat.le_of_ble_eq_true rfl) rfl ?_
  obtain ⟨zy19, ze20⟩ : ∃ z : Int32, z = (x5 + (1 : Int32)) := ⟨_, rfl⟩
  have hd := dl_n hd zy19 ze20
  refine v_iinc (v := zy19) (L2 := [(5, .int zy19), (3, .int zr17), (4, .int s0), (0, .ref 0), (1, .int x1), (2, .int x2), (6, .int x6)]) dX7_best_82 rfl (by rw [ic_1]; exact ze20.symm) (Nat.le_of_ble_eq_true rfl) rfl ?_
  refine v_goto (tgt := 38) dX7_best_85 (by decide) ?_
  refine v_loc [3, 4, 5, 1, 2, 0] rfl ?_
  exact hk38 u x1 x2 zr17 s0 zy19 hd

def d_M_best_38  : Nat → (Nat → Nat → Int32) → Int32 → Int32 → Int32 → Int32 → Int32 → Option (Int32 × (Nat → Nat → Int32))
  | 0, _, _, _, _, _, _ => none
  | f + 1, u, x1, x2, x3, x4, x5 => (d_M_numbers u).bind fun zr5 => if zr5 ≤ x5 then ((d_M_startsBy u x4).bind fun zr8 => if x2 = 0 then (some (x3, zr8)) else (if gi (((0 : Int32) + x2) - (10 : Int32)) 41 = true then some (((zr8 2) (((0 : Int32) + x2) - (10 : Int32)).toNatClampNeg), zr8) else none)) else ((d_M_startsBy u x5).bind fun zr12 => (d_M_lossOf zr12 x1).bind fun zr14 => if x3 ≤ zr14.1 then (d_M_best_73 (d_M_best_38 f) zr14.2 x1 x2 x3 x5 zr14.1 x4) else (d_M_best_73 (d_M_best_38 f) zr14.2 x1 x2 x3 x5 zr14.1 x5))
set_option maxRecDepth 100000 in
set_option maxHeartbeats 4000000 in
theorem v_M_best_38 (w : Nat → Int64) {r : Int32 × (Nat → Nat → Int32)}  : ∀ (f : Nat) (u : (Nat → Nat → Int32)) (x1 : Int32) (x2 : Int32) (x3 : Int32) (x4 : Int32) (x5 : Int32), d_M_best_38  f u x1 x2 x3 x4 x5 = some r → Vd RX7 "best" cX7_best 7 (some .int) (rm 6) (ab_eq (some (.int r.1)) (h_M r.2 w)) 0 0 0 0 38 [(0, .ref 0), (1, .int x1), (2, .int x2), (3, .int x3), (4, .int x4), (5, .int x5)] [] (h_M u w) := by
  intro f
  induction f with
  | zero =>
    intro u x1 x2 x3 x4 x5 hd
    rw [d_M_best_38] at hd
    cases hd
  | succ f ih =>
    intro u x1 x2 x3 x4 x5 hd
    rw [d_M_best_38] at hd
    refine v_iload dX7_best_38 rfl ?_
    refine v_aload_n dX7_best_40 rfl ?_
    obtain ⟨zr5, zh6, hd⟩ := g_bind hd
    refine v_cI (dy := 0) (st := [.int x5]) (st2 := [.int zr5, .int x5]) dX7_best_41 mv_X7_206 (m_M_numbers u w zh6) rfl rfl rfl rfl rfl (by decide) (by decide) rfl rfl ?_
    refine v_icmp_ge (tgt := 88) dX7_best_44 (by decide) (fun zc7 => ?_) (fun zc7 => ?_)
    · have hd := g_t hd zc7
      refine v_aload_n dX7_best_88 rfl ?_
      refine v_iload dX7_best_89 rfl ?_
      obtain ⟨zr8, zh9, hd⟩ := g_bind hd
      refine v_cI (dy := 1) (st := []) (st2 := []) dX7_best_91 mv_X7_209 (m_M_startsBy u x4 w zh9) rfl rfl rfl rfl rfl (by decide) (by decide) rfl rfl ?_
      refine v_iload_n dX7_best_94 rfl ?_
      refine v_if_ne (tgt := 102) dX7_best_95 (by decide) (fun zc10 => ?_) (fun zc10 => ?_)
      · have hd := g_f hd zc10
        refine v_aload_n dX7_best_102 rfl ?_
        refine v_get (v := .ref 2) dX7_best_103 fl_X7_13 rfl rfl ?_
        refine v_iconst dX7_best_106 ic_0 ?_
        refine v_iload_n dX7_best_107 rfl ?_
        refine v_iadd dX7_best_108 ?_
        refine v_bipush dX7_best_109 bp_10 ?_
        refine v_isub dX7_best_111 ?_
        obtain ⟨zg11, hd⟩ := g_b hd
        refine v_iald (f := (zr8 2)) dX7_best_112 rfl (gi_in zg11) ?_
        obtain rfl := Option.some.inj hd
        exact v_iretE dX7_best_113 rfl rfl rfl rfl
      · have hd := g_t hd zc10
        refine v_iload_n dX7_best_98 rfl ?_
        refine v_goto (tgt := 113) dX7_best_99 (by decide) ?_
        obtain rfl := Option.some.inj hd
        exact v_iretE dX7_best_113 rfl rfl rfl rfl
    · have hd := g_f hd zc7
      refine v_aload_n dX7_best_47 rfl ?_
      refine v_iload dX7_best_48 rfl ?_
      obtain ⟨zr12, zh13, hd⟩ := g_bind hd
      refine v_cI (dy := 1) (st := []) (st2 := []) dX7_best_50 mv_X7_209 (m_M_startsBy u x5 w zh13) rfl rfl rfl rfl rfl (by decide) (by decide) rfl rfl ?_
      refine v_aload_n dX7_best_53 rfl ?_
      refine v_iload_n dX7_best_54 rfl ?_
      obtain ⟨zr14, zh15, hd⟩ := g_bind hd
      refine v_cI (dy := 5) (st := []) (st2 := [.int zr14.1]) dX7_best_55 mv_X7_212 (m_M_lossOf zr12 x1 w zh15) rfl rfl rfl rfl rfl (by decide) (by decide) rfl rfl ?_
      refine v_istore (i := 6) (L2 := [(6, .int zr14.1), (0, .ref 0), (1, .int x1), (2, .int x2), (3, .int x3), (4, .int x4), (5, .int x5)]) dX7_best_58 (Nat.le_of_ble_eq_true rfl) rfl ?_
      refine v_iload dX7_best_60 rfl ?_
      refine v_iload_n dX7_best_62 rfl ?_
      refine v_icmp_ge (tgt := 71) dX7_best_63 (by decide) (fun zc16 => ?_) (fun zc16 => ?_)
      · have hd := g_t hd zc16
        refine v_iload dX7_best_71 rfl ?_
        refine v_loc [1, 2, 3, 4, 6, 0] rfl ?_
        exact v_M_best_73 w (d_M_best_38 f) (ih) zr14.2 x1 x2 x3 x5 zr14.1 x4 hd
      · have hd := g_f hd zc16
        refine v_iload dX7_best_66 rfl ?_
        refine v_goto (tgt := 73) dX7_best_68 (by decide) ?_
        refine v_loc [1, 2, 3, 4, 6, 0] rfl ?_
        exact v_M_best_73 w (d_M_best_38 f) (ih) zr14.2 x1 x2 x3 x5 zr14.1 x5 hd

def d_M_best_29  (u : (Nat → Nat → Int32)) (x1 : Int32) (x2 : Int32) : Option (Int32 × (Nat → Nat → Int32)) := d_M_best_38 FU u x1 x2 (1000000 : Int32) (0 : Int32) (0 : Int32)
set_option maxRecDepth 100000 in
set_option maxHeartbeats 4000000 in
theorem v_M_best_29 (w : Nat → Int64) {r : Int32 × (Nat → Nat → Int32)}  (u : (Nat → Nat → Int32)) (x1 : Int32) (x2 : Int32) (hd : d_M_best_29  u x1 x2 = some r) : Vd RX7 "best" cX7_best 7 (some .int) (rm 6) (ab_eq (some (.int r.1)) (h_M r.2 w)) 0 0 0 0 29 [(0, .ref 0), (1, .int x1), (2, .int x2)] [] (h_M u w) := by
  unfold d_M_best_29 at hd
  refine v_ldc dX7_best_29 kc_X7_205 ?_
  refine v_istore_n (i := 3) (L2 := [(3, .int (1000000 : Int32)), (0, .ref 0), (1, .int x1), (2, .int x2)]) dX7_best_31 rfl (Nat.le_of_ble_eq_true rfl) rfl ?_
  refine v_iconst dX7_best_32 ic_0 ?_
  refine v_istore (i := 4) (L2 := [(4, .int (0 : Int32)), (3, .int (1000000 : Int32)), (0, .ref 0), (1, .int x1), (2, .int x2)]) dX7_best_33 (Nat.le_of_ble_eq_true rfl) rfl ?_
  refine v_iconst dX7_best_35 ic_0 ?_
  refine v_istore (i := 5) (L2 := [(5, .int (0 : Int32)), (4, .int (0 : Int32)), (3, .int (1000000 : Int32)), (0, .ref 0), (1, .int x1), (2, .int x2)]) dX7_best_36 (Nat.le_of_ble_eq_true rfl) rfl ?_
  refine v_loc [3, 4, 5, 2, 1, 0] rfl ?_
  exact v_M_best_38 w FU u x1 x2 (1000000 : Int32) (0 : Int32) (0 : Int32) hd
def d_M_best (u : (Nat → Nat → Int32)) (a1 : Int32) (a2 : Int32) : Option (Int32 × (Nat → Nat → Int32)) := (d_P_in a1.toInt64 (0 : Int64) (20 : Int64)).bind fun zr1 => if zr1 = 0 then (some ((-1 : Int32), u)) else (if a2 = 0 then (d_M_best_29 u a1 a2) else ((d_M_isHouse u (a2 - (10 : Int32))).bind fun zr21 => if zr21 = 0 then (some ((-1 : Int32), u)) else (d_M_best_29 u a1 a2)))
set_option maxRecDepth 100000 in
set_option maxHeartbeats 4000000 in
theorem v_M_best (u : (Nat → Nat → Int32)) (a1 : Int32) (a2 : Int32) (w : Nat → Int64) {r : Int32 × (Nat → Nat → Int32)} (hd : d_M_best u a1 a2 = some r) : Vd RX7 "best" cX7_best 7 (some .int) (rm 6) (ab_eq (some (.int r.1)) (h_M r.2 w)) 0 0 0 0 0 [(0, .ref 0), (1, .int a1), (2, .int a2)] [] (h_M u w) := by
  unfold d_M_best at hd
  refine v_iload_n dX7_best_0 rfl ?_
  refine v_i2l dX7_best_1 ?_
  refine v_lconst (v := 0) dX7_best_2 rfl ?_
  refine v_ldc2 dX7_best_3 kc_X7_192 ?_
  obtain ⟨zr1, zh2, hd⟩ := g_bind hd
  refine v_cS (dy := 0) (st := []) (st2 := [.int zr1]) (h2 := (h_M u w)) [] dX7_best_6 mz_X7_72 (m_P_in a1.toInt64 (0 : Int64) (20 : Int64) zh2) rfl rfl rfl rfl rfl rfl (by decide) (by decide) rfl rfl rfl ?_
  refine v_if_eq (tgt := 27) dX7_best_9 (by decide) (fun zc3 => ?_) (fun zc3 => ?_)
  · have hd := g_t hd zc3
    refine v_iconst dX7_best_27 ic_m1 ?_
    obtain rfl := Option.some.inj hd
    exact v_iretE dX7_best_28 rfl rfl rfl rfl
  · have hd := g_f hd zc3
    refine v_iload_n dX7_best_12 rfl ?_
    refine v_if_eq (tgt := 29) dX7_best_13 (by decide) (fun zc4 => ?_) (fun zc4 => ?_)
    · have hd := g_t hd zc4
      exact v_M_best_29 w u a1 a2 hd
    · have hd := g_f hd zc4
      refine v_aload_n dX7_best_16 rfl ?_
      refine v_iload_n dX7_best_17 rfl ?_
      refine v_bipush dX7_best_18 bp_10 ?_
      refine v_isub dX7_best_20 ?_
      obtain ⟨zr21, zh22, hd⟩ := g_bind hd
      refine v_cI (dy := 1) (st := []) (st2 := [.int zr21]) dX7_best_21 mv_X7_176 (m_M_isHouse u (a2 - (10 : Int32)) w zh22) rfl rfl rfl rfl rfl (by decide) (by decide) rfl rfl ?_
      refine v_if_ne (tgt := 29) dX7_best_24 (by decide) (fun zc23 => ?_) (fun zc23 => ?_)
      · have hd := g_f hd zc23
        exact v_M_best_29 w u a1 a2 hd
      · have hd := g_t hd zc23
        refine v_iconst dX7_best_27 ic_m1 ?_
        obtain rfl := Option.some.inj hd
        exact v_iretE dX7_best_28 rfl rfl rfl rfl
theorem m_M_best (u : (Nat → Nat → Int32)) (a1 : Int32) (a2 : Int32) (w : Nat → Int64) {r : Int32 × (Nat → Nat → Int32)} (hd : d_M_best u a1 a2 = some r) : Mt yX7_best cX7_best 7 (some .int) (rm 6) [.ref 0, .int a1, .int a2] (h_M u w) (ab_eq (some (.int r.1)) (h_M r.2 w)) := Mt.of (by decide +kernel) (fun _ _ _ => trivial) (Nat.le_of_ble_eq_true rfl) (v_M_best u a1 a2 w hd)

def d_M_change_97 (k38 : (Nat → Nat → Int32) → Int32 → Int32 → Int32 → Int32 → Int32 → Option (Int32 × (Nat → Nat → Int32))) (k50 : (Nat → Nat → Int32) → Int32 → Int32 → Int32 → Int32 → Int32 → Int32 → Option (Int32 × (Nat → Nat → Int32))) (u : (Nat → Nat → Int32)) (x1 : Int32) (x2 : Int32) (x3 : Int32) (x5 : Int32) (x6 : Int32) (x7 : Int32) (s0 : Int32) : Option (Int32 × (Nat → Nat → Int32)) := (d_P_lesser x7 x3).bind fun zr25 => dl (x6 + (1 : Int32)) fun zy27 => k50 u x1 x2 zr25 s0 x5 zy27
set_option maxRecDepth 100000 in
set_option maxHeartbeats 4000000 in
theorem v_M_change_97 (w : Nat → Int64) {r : Int32 × (Nat → Nat → Int32)} (k38 : (Nat → Nat → Int32) → Int32 → Int32 → Int32 → Int32 → Int32 → Option (Int32 × (Nat → Nat → Int32))) (hk38 : ∀ (u : (Nat → Nat → Int32)) (x1 : Int32) (x2 : Int32) (x3 : Int32) (x4 : Int32) (x5 : Int32), k38 u x1 x2 x3 x4 x5 = some r → Vd RX7 "change" cX7_change 8 (some .int) (rm 6) (ab_eq (some (.int r.1)) (h_M r.2 w)) 0 0 0 0 38 [(0, .ref 0), (1, .int x1), (2, .int x2), (3, .int x3), (4, .int x4), (5, .int x5)] [] (h_M u w)) (k50 : (Nat → Nat → Int32) → Int32 → Int32 → Int32 → Int32 → Int32 → Int32 → Option (Int32 × (Nat → Nat → Int32))) (hk50 : ∀ (u : (Nat → Nat → Int32)) (x1 : Int32) (x2 : Int32) (x3 : Int32) (x4 : Int32) (x5 : Int32) (x6 : Int32), k50 u x1 x2 x3 x4 x5 x6 = some r → Vd RX7 "change" cX7_change 8 (some .int) (rm 6) (ab_eq (some (.int r.1)) (h_M r.2 w)) 0 0 0 0 50 [(0, .ref 0), (1, .int x1), (2, .int x2), (3, .int x3), (4, .int x4), (5, .int x5), (6, .int x6)] [] (h_M u w)) (u : (Nat → Nat → Int32)) (x1 : Int32) (x2 : Int32) (x3 : Int32) (x5 : Int32) (x6 : Int32) (x7 : Int32) (s0 : Int32) (hd : d_M_change_97 k38 k50 u x1 x2 x3 x5 x6 x7 s0 = some r) : Vd RX7 "change" cX7_change 8 (some .int) (rm 6) (ab_eq (some (.int r.1)) (h_M r.2 w)) 0 0 0 0 97 [(0, .ref 0), (1, .int x1), (2, .int x2), (3, .int x3), (5, .int x5), (6, .int x6), (7, .int x7)] [.int s0] (h_M u w) := by
  unfold d_M_change_97 at hd
  refine v_istore (i := 4) (L2 := [(4, .int s0), (0, .ref 0), (1, .int x1), (2, .int x2), (3, .int x3), (5, .int x5), (6, .int x6), (7, .int x7)]) dX7_change_97 (Nat.le_of_ble_eq_true rfl) rfl ?_
  refine v_iload dX7_change_99 rfl ?_
  refine v_iload_n dX7_change_101 rfl ?_
  obtain ⟨zr25, zh26, hd⟩ := g_bind hd
  refine v_cS (dy := 0) (st := []) (st2 := [.int zr25]) (h2 := (h_M u w)) [] dX7_change_102 mz_X7_151 (m_P_lesser x7 x3 zh26) rfl rfl rfl rfl rfl rfl (by decide) (by decide) rfl rfl rfl ?_
  refine v_istore_n (i := 3) (L2 := [(3, .int zr25), (4, .int s0), (0, .ref 0), (1, .int x1), (2, .int x2), (5, .int x5), (6, .int x6), (7, .int x7)]) dX7_change_105 rfl (Nat.le_of_ble_eq_true rfl) rfl ?_
  obtain ⟨zy27, ze28⟩ : ∃ z : Int32, z = (x6 + (1 : Int32)) := ⟨_, rfl⟩
  have hd := dl_n hd zy27 ze28
  refine v_iinc (v := zy27) (L2 := [(6, .int zy27), (3, .int zr25), (4, .int s0), (0, .ref 0), (1, .int x1), (2, .int x2), (5, .int x5), (7, .int x7)]) dX7_change_106 rfl (by rw [ic_1]; exact ze28.symm) (Nat.le_of_ble_eq_true rfl) rfl ?_
  refine v_goto (tgt := 50) dX7_change_109 (by decide) ?_
  refine v_loc [3, 4, 5, 1, 2, 6, 0] rfl ?_
  exact hk50 u x1 x2 zr25 s0 x5 zy27 hd

def d_M_change_50 (k38 : (Nat → Nat → Int32) → Int32 → Int32 → Int32 → Int32 → Int32 → Option (Int32 × (Nat → Nat → Int32))) : Nat → (Nat → Nat → Int32) → Int32 → Int32 → Int32 → Int32 → Int32 → Int32 → Option (Int32 × (Nat → Nat → Int32))
  | 0, _, _, _, _, _, _, _ => none
  | f + 1, u, x1, x2, x3, x4, x5, x6 => if (4 : Int32) ≤ x6 then (dl (x5 + (1 : Int32)) fun zy15 => k38 u x1 x2 x3 x4 zy15) else ((d_M_starts u).bind fun zr17 => if gi ((0 : Int32) + x5) 41 = true then dl (pw zr17 2 ((0 : Int32) + x5).toNatClampNeg x6) fun zu20 => (d_M_lossOf zu20 x1).bind fun zr22 => if x3 ≤ zr22.1 then (d_M_change_97 k38 (d_M_change_50 k38 f) zr22.2 x1 x2 x3 x5 x6 zr22.1 x4) else (d_M_change_97 k38 (d_M_change_50 k38 f) zr22.2 x1 x2 x3 x5 x6 zr22.1 (((10 : Int32) * x5) + x6)) else none)
set_option maxRecDepth 100000 in
set_option maxHeartbeats 4000000 in
theorem v_M_change_50 (w : Nat → Int64) {r : Int32 × (Nat → Nat → Int32)} (k38 : (Nat → Nat → Int32) → Int32 → Int32 → Int32 → Int32 → Int32 → Option (Int32 × (Nat → Nat → Int32))) (hk38 : ∀ (u : (Nat → Nat → Int32)) (x1 : Int32) (x2 : Int32) (x3 : Int32) (x4 : Int32) (x5 : Int32), k38 u x1 x2 x3 x4 x5 = some r → Vd RX7 "change" cX7_change 8 (some .int) (rm 6) (ab_eq (some (.int r.1)) (h_M r.2 w)) 0 0 0 0 38 [(0, .ref 0), (1, .int x1), (2, .int x2), (3, .int x3), (4, .int x4), (5, .int x5)] [] (h_M u w)) : ∀ (f : Nat) (u : (Nat → Nat → Int32)) (x1 : Int32) (x2 : Int32) (x3 : Int32) (x4 : Int32) (x5 : Int32) (x6 : Int32), d_M_change_50 k38 f u x1 x2 x3 x4 x5 x6 = some r → Vd RX7 "change" cX7_change 8 (some .int) (rm 6) (ab_eq (some (.int r.1)) (h_M r.2 w)) 0 0 0 0 50 [(0, .ref 0), (1, .int x1), (2, .int x2), (3, .int x3), (4, .int x4), (5, .int x5), (6, .int x6)] [] (h_M u w) := by
  intro f
  induction f with
  | zero =>
    intro u x1 x2 x3 x4 x5 x6 hd
    rw [d_M_change_50] at hd
    cases hd
  | succ f ih =>
    intro u x1 x2 x3 x4 x5 x6 hd
    rw [d_M_change_50] at hd
    refine v_iload dX7_change_50 rfl ?_
    refine v_iconst dX7_change_52 ic_4 ?_
    refine v_icmp_ge (tgt := 112) dX7_change_53 (by decide) (fun zc14 => ?_) (fun zc14 => ?_)
    · have hd := g_t hd zc14
      obtain ⟨zy15, ze16⟩ : ∃ z : Int32, z = (x5 + (1 : Int32)) := ⟨_, rfl⟩
      have hd := dl_n hd zy15 ze16
      refine v_iinc (v := zy15) (L2 := [(5, .int zy15), (0, .ref 0), (1, .int x1), (2, .int x2), (3, .int x3), (4, .int x4), (6, .int x6)]) dX7_change_112 rfl (by rw [ic_1]; exact ze16.symm) (Nat.le_of_ble_eq_true rfl) rfl ?_
      refine v_goto (tgt := 38) dX7_change_115 (by decide) ?_
      refine v_loc [1, 2, 3, 4, 5, 0] rfl ?_
      exact hk38 u x1 x2 x3 x4 zy15 hd
    · have hd := g_f hd zc14
      refine v_aload_n dX7_change_56 rfl ?_
      obtain ⟨zr17, zh18, hd⟩ := g_bind hd
      refine v_cI (dy := 0) (st := []) (st2 := []) dX7_change_57 mv_X7_170 (m_M_starts u w zh18) rfl rfl rfl rfl rfl (by decide) (by decide) rfl rfl ?_
      refine v_aload_n dX7_change_60 rfl ?_
      refine v_get (v := .ref 2) dX7_change_61 fl_X7_13 rfl rfl ?_
      refine v_iconst dX7_change_64 ic_0 ?_
      refine v_iload dX7_change_65 rfl ?_
      refine v_iadd dX7_change_67 ?_
      refine v_iload dX7_change_68 rfl ?_
      obtain ⟨zg19, hd⟩ := g_b hd
      refine v_ist (f := (zr17 2)) (h2 := (h_M (pw zr17 2 ((0 : Int32) + x5).toNatClampNeg x6) w)) dX7_change_70 rfl (gi_in zg19) rfl ?_
      refine v_nmu (F := fun z => (h_M z w)) (e := (pw zr17 2 ((0 : Int32) + x5).toNatClampNeg x6)) (fun zu20 ze21 => ?_)
      have hd := dl_n hd zu20 ze21
      refine v_aload_n dX7_change_71 rfl ?_
      refine v_iload_n dX7_change_72 rfl ?_
      obtain ⟨zr22, zh23, hd⟩ := g_bind hd
      refine v_cI (dy := 5) (st := []) (st2 := [.int zr22.1]) dX7_change_73 mv_X7_212 (m_M_lossOf zu20 x1 w zh23) rfl rfl rfl rfl rfl (by decide) (by decide) rfl rfl ?_
      refine v_istore (i := 7) (L2 := [(7, .int zr22.1), (0, .ref 0), (1, .int x1), (2, .int x2), (3, .int x3), (4, .int x4), (5, .int x5), (6, .int x6)]) dX7_change_76 (Nat.le_of_ble_eq_true rfl) rfl ?_
      refine v_iload dX7_change_78 rfl ?_
      refine v_iload_n dX7_change_80 rfl ?_
      refine v_icmp_ge (tgt := 95) dX7_change_81 (by decide) (fun zc24 => ?_) (fun zc24 => ?_)
      · have hd := g_t hd zc24
        refine v_iload dX7_change_95 rfl ?_
        refine v_loc [1, 2, 3, 4, 6, 7, 0] rfl ?_
        exact v_M_change_97 w k38 (hk38) (d_M_change_50 k38 f) (ih) zr22.2 x1 x2 x3 x5 x6 zr22.1 x4 hd
      · have hd := g_f hd zc24
        refine v_bipush dX7_change_84 bp_10 ?_
        refine v_iload dX7_change_86 rfl ?_
        refine v_imul dX7_change_88 ?_
        refine v_iload dX7_change_89 rfl ?_
        refine v_iadd dX7_change_91 ?_
        refine v_goto (tgt := 97) dX7_change_92 (by decide) ?_
        refine v_loc [1, 2, 3, 4, 6, 7, 0] rfl ?_
        exact v_M_change_97 w k38 (hk38) (d_M_change_50 k38 f) (ih) zr22.2 x1 x2 x3 x5 x6 zr22.1 (((10 : Int32) * x5) + x6) hd

def d_M_change_38  : Nat → (Nat → Nat → Int32) → Int32 → Int32 → Int32 → Int32 → Int32 → Option (Int32 × (Nat → Nat → Int32))
  | 0, _, _, _, _, _, _ => none
  | f + 1, u, x1, x2, x3, x4, x5 => if (u 0 3) ≤ x5 then (if x4 = (-4 : Int32) then (some ((-4 : Int32), u)) else (if x2 = 0 then (some (x4, u)) else (some (x3, u)))) else (d_M_change_50 (d_M_change_38 f) FU u x1 x2 x3 x4 x5 (0 : Int32))
set_option maxRecDepth 100000 in
set_option maxHeartbeats 4000000 in
theorem v_M_change_38 (w : Nat → Int64) {r : Int32 × (Nat → Nat → Int32)}  : ∀ (f : Nat) (u : (Nat → Nat → Int32)) (x1 : Int32) (x2 : Int32) (x3 : Int32) (x4 : Int32) (x5 : Int32), d_M_change_38  f u x1 x2 x3 x4 x5 = some r → Vd RX7 "change" cX7_change 8 (some .int) (rm 6) (ab_eq (some (.int r.1)) (h_M r.2 w)) 0 0 0 0 38 [(0, .ref 0), (1, .int x1), (2, .int x2), (3, .int x3), (4, .int x4), (5, .int x5)] [] (h_M u w) := by
  intro f
  induction f with
  | zero =>
    intro u x1 x2 x3 x4 x5 hd
    rw [d_M_change_38] at hd
    cases hd
  | succ f ih =>
    intro u x1 x2 x3 x4 x5 hd
    rw [d_M_change_38] at hd
    refine v_iload dX7_change_38 rfl ?_
    refine v_aload_n dX7_change_40 rfl ?_
    refine v_get (v := .int (u 0 3)) dX7_change_41 fl_X7_67 rfl rfl ?_
    refine v_icmp_ge (tgt := 118) dX7_change_44 (by decide) (fun zc11 => ?_) (fun zc11 => ?_)
    · have hd := g_t hd zc11
      refine v_iload dX7_change_118 rfl ?_
      refine v_bipush dX7_change_120 bp_m4 ?_
      refine v_icmp_ne (tgt := 130) dX7_change_122 (by decide) (fun zc12 => ?_) (fun zc12 => ?_)
      · have hd := g_f hd zc12
        refine v_iload_n dX7_change_130 rfl ?_
        refine v_if_ne (tgt := 139) dX7_change_131 (by decide) (fun zc13 => ?_) (fun zc13 => ?_)
        · have hd := g_f hd zc13
          refine v_iload_n dX7_change_139 rfl ?_
          obtain rfl := Option.some.inj hd
          exact v_iretE dX7_change_140 rfl rfl rfl rfl
        · have hd := g_t hd zc13
          refine v_iload dX7_change_134 rfl ?_
          refine v_goto (tgt := 140) dX7_change_136 (by decide) ?_
          obtain rfl := Option.some.inj hd
          exact v_iretE dX7_change_140 rfl rfl rfl rfl
      · have hd := g_t hd zc12
        refine v_bipush dX7_change_125 bp_m4 ?_
        refine v_goto (tgt := 140) dX7_change_127 (by decide) ?_
        obtain rfl := Option.some.inj hd
        exact v_iretE dX7_change_140 rfl rfl rfl rfl
    · have hd := g_f hd zc11
      refine v_iconst dX7_change_47 ic_0 ?_
      refine v_istore (i := 6) (L2 := [(6, .int (0 : Int32)), (0, .ref 0), (1, .int x1), (2, .int x2), (3, .int x3), (4, .int x4), (5, .int x5)]) dX7_change_48 (Nat.le_of_ble_eq_true rfl) rfl ?_
      refine v_loc [1, 2, 3, 4, 5, 6, 0] rfl ?_
      exact v_M_change_50 w (d_M_change_38 f) (ih) FU u x1 x2 x3 x4 x5 (0 : Int32) hd
def d_M_change (u : (Nat → Nat → Int32)) (a1 : Int32) (a2 : Int32) : Option (Int32 × (Nat → Nat → Int32)) := (d_P_in a1.toInt64 (0 : Int64) (20 : Int64)).bind fun zr1 => if zr1 = 0 then (some ((-1 : Int32), u)) else ((d_P_isPart a2).bind fun zr4 => if zr4 = 0 then (some ((-1 : Int32), u)) else ((d_M_starts u).bind fun zr7 => (d_M_lossOf zr7 a1).bind fun zr9 => d_M_change_38 FU zr9.2 a1 a2 zr9.1 (-4 : Int32) (0 : Int32)))
set_option maxRecDepth 100000 in
set_option maxHeartbeats 4000000 in
theorem v_M_change (u : (Nat → Nat → Int32)) (a1 : Int32) (a2 : Int32) (w : Nat → Int64) {r : Int32 × (Nat → Nat → Int32)} (hd : d_M_change u a1 a2 = some r) : Vd RX7 "change" cX7_change 8 (some .int) (rm 6) (ab_eq (some (.int r.1)) (h_M r.2 w)) 0 0 0 0 0 [(0, .ref 0), (1, .int a1), (2, .int a2)] [] (h_M u w) := by
  unfold d_M_change at hd
  refine v_iload_n dX7_change_0 rfl ?_
  refine v_i2l dX7_change_1 ?_
  refine v_lconst (v := 0) dX7_change_2 rfl ?_
  refine v_ldc2 dX7_change_3 kc_X7_192 ?_
  obtain ⟨zr1, zh2, hd⟩ := g_bind hd
  refine v_cS (dy := 0) (st := []) (st2 := [.int zr1]) (h2 := (h_M u w)) [] dX7_change_6 mz_X7_72 (m_P_in a1.toInt64 (0 : Int64) (20 : Int64) zh2) rfl rfl rfl rfl rfl rfl (by decide) (by decide) rfl rfl rfl ?_
  refine v_if_eq (tgt := 19) dX7_change_9 (by decide) (fun zc3 => ?_) (fun zc3 => ?_)
  · have hd := g_t hd zc3
    refine v_iconst dX7_change_19 ic_m1 ?_
    obtain rfl := Option.some.inj hd
    exact v_iretE dX7_change_20 rfl rfl rfl rfl
  · have hd := g_f hd zc3
    refine v_iload_n dX7_change_12 rfl ?_
    obtain ⟨zr4, zh5, hd⟩ := g_bind hd
    refine v_cS (dy := 1) (st := []) (st2 := [.int zr4]) (h2 := (h_M u w)) [] dX7_change_13 mz_X7_182 (m_P_isPart a2 zh5) rfl rfl rfl rfl rfl rfl (by decide) (by decide) rfl rfl rfl ?_
    refine v_if_ne (tgt := 21) dX7_change_16 (by decide) (fun zc6 => ?_) (fun zc6 => ?_)
    · have hd := g_f hd zc6
      refine v_aload_n dX7_change_21 rfl ?_
      obtain ⟨zr7, zh8, hd⟩ := g_bind hd
      refine v_cI (dy := 0) (st := []) (st2 := []) dX7_change_22 mv_X7_170 (m_M_starts u w zh8) rfl rfl rfl rfl rfl (by decide) (by decide) rfl rfl ?_
      refine v_aload_n dX7_change_25 rfl ?_
      refine v_iload_n dX7_change_26 rfl ?_
      obtain ⟨zr9, zh10, hd⟩ := g_bind hd
      refine v_cI (dy := 5) (st := []) (st2 := [.int zr9.1]) dX7_change_27 mv_X7_212 (m_M_lossOf zr7 a1 w zh10) rfl rfl rfl rfl rfl (by decide) (by decide) rfl rfl ?_
      refine v_istore_n (i := 3) (L2 := [(3, .int zr9.1), (0, .ref 0), (1, .int a1), (2, .int a2)]) dX7_change_30 rfl (Nat.le_of_ble_eq_true rfl) rfl ?_
      refine v_bipush dX7_change_31 bp_m4 ?_
      refine v_istore (i := 4) (L2 := [(4, .int (-4 : Int32)), (3, .int zr9.1), (0, .ref 0), (1, .int a1), (2, .int a2)]) dX7_change_33 (Nat.le_of_ble_eq_true rfl) rfl ?_
      refine v_iconst dX7_change_35 ic_0 ?_
      refine v_istore (i := 5) (L2 := [(5, .int (0 : Int32)), (4, .int (-4 : Int32)), (3, .int zr9.1), (0, .ref 0), (1, .int a1), (2, .int a2)]) dX7_change_36 (Nat.le_of_ble_eq_true rfl) rfl ?_
      refine v_loc [3, 4, 5, 2, 1, 0] rfl ?_
      exact v_M_change_38 w FU zr9.2 a1 a2 zr9.1 (-4 : Int32) (0 : Int32) hd
    · have hd := g_t hd zc6
      refine v_iconst dX7_change_19 ic_m1 ?_
      obtain rfl := Option.some.inj hd
      exact v_iretE dX7_change_20 rfl rfl rfl rfl
theorem m_M_change (u : (Nat → Nat → Int32)) (a1 : Int32) (a2 : Int32) (w : Nat → Int64) {r : Int32 × (Nat → Nat → Int32)} (hd : d_M_change u a1 a2 = some r) : Mt yX7_change cX7_change 8 (some .int) (rm 6) [.ref 0, .int a1, .int a2] (h_M u w) (ab_eq (some (.int r.1)) (h_M r.2 w)) := Mt.of (by decide +kernel) (fun _ _ _ => trivial) (Nat.le_of_ble_eq_true rfl) (v_M_change u a1 a2 w hd)

def d_M_startsWithCooks_42 (k6 : (Nat → Nat → Int32) → Int32 → Int32 → Option ((Nat → Nat → Int32))) (u : (Nat → Nat → Int32)) (x1 : Int32) (x2 : Int32) (s1 : Int32) (s2 : Int32) : Option ((Nat → Nat → Int32)) := if gi s1 41 = true then dl (pw u 2 s1.toNatClampNeg s2) fun zu7 => dl (x2 + (1 : Int32)) fun zy9 => k6 zu7 x1 zy9 else none
set_option maxRecDepth 100000 in
set_option maxHeartbeats 4000000 in
theorem v_M_startsWithCooks_42 (w : Nat → Int64) {r : (Nat → Nat → Int32)} (k6 : (Nat → Nat → Int32) → Int32 → Int32 → Option ((Nat → Nat → Int32))) (hk6 : ∀ (u : (Nat → Nat → Int32)) (x1 : Int32) (x2 : Int32), k6 u x1 x2 = some r → Vd RX7 "startsWithCooks" cX7_startsWithCooks 3 none (rm 1) (ab_eq none (h_M r w)) 0 0 0 0 6 [(0, .ref 0), (1, .int x1), (2, .int x2)] [] (h_M u w)) (u : (Nat → Nat → Int32)) (x1 : Int32) (x2 : Int32) (s1 : Int32) (s2 : Int32) (hd : d_M_startsWithCooks_42 k6 u x1 x2 s1 s2 = some r) : Vd RX7 "startsWithCooks" cX7_startsWithCooks 3 none (rm 1) (ab_eq none (h_M r w)) 0 0 0 0 42 [(0, .ref 0), (1, .int x1), (2, .int x2)] [.int s2, .int s1, .ref 2] (h_M u w) := by
  unfold d_M_startsWithCooks_42 at hd
  obtain ⟨zg6, hd⟩ := g_b hd
  refine v_ist (f := (u 2)) (h2 := (h_M (pw u 2 s1.toNatClampNeg s2) w)) dX7_startsWithCooks_42 rfl (gi_in zg6) rfl ?_
  refine v_nmu (F := fun z => (h_M z w)) (e := (pw u 2 s1.toNatClampNeg s2)) (fun zu7 ze8 => ?_)
  have hd := dl_n hd zu7 ze8
  obtain ⟨zy9, ze10⟩ : ∃ z : Int32, z = (x2 + (1 : Int32)) := ⟨_, rfl⟩
  have hd := dl_n hd zy9 ze10
  refine v_iinc (v := zy9) (L2 := [(2, .int zy9), (0, .ref 0), (1, .int x1)]) dX7_startsWithCooks_43 rfl (by rw [ic_1]; exact ze10.symm) (Nat.le_of_ble_eq_true rfl) rfl ?_
  refine v_goto (tgt := 6) dX7_startsWithCooks_46 (by decide) ?_
  refine v_loc [1, 2, 0] rfl ?_
  exact hk6 zu7 x1 zy9 hd

def d_M_startsWithCooks_6  : Nat → (Nat → Nat → Int32) → Int32 → Int32 → Option ((Nat → Nat → Int32))
  | 0, _, _, _ => none
  | f + 1, u, x1, x2 => if (u 0 3) ≤ x2 then (some u) else (if ((x1 >>> (x2 &&& 31)) &&& (1 : Int32)) = (1 : Int32) then (d_M_startsWithCooks_42 (d_M_startsWithCooks_6 f) u x1 x2 ((0 : Int32) + x2) (3 : Int32)) else (if gi ((0 : Int32) + x2) 41 = true then d_M_startsWithCooks_42 (d_M_startsWithCooks_6 f) u x1 x2 ((0 : Int32) + x2) ((u 2) ((0 : Int32) + x2).toNatClampNeg) else none))
set_option maxRecDepth 100000 in
set_option maxHeartbeats 4000000 in
theorem v_M_startsWithCooks_6 (w : Nat → Int64) {r : (Nat → Nat → Int32)}  : ∀ (f : Nat) (u : (Nat → Nat → Int32)) (x1 : Int32) (x2 : Int32), d_M_startsWithCooks_6  f u x1 x2 = some r → Vd RX7 "startsWithCooks" cX7_startsWithCooks 3 none (rm 1) (ab_eq none (h_M r w)) 0 0 0 0 6 [(0, .ref 0), (1, .int x1), (2, .int x2)] [] (h_M u w) := by
  intro f
  induction f with
  | zero =>
    intro u x1 x2 hd
    rw [d_M_startsWithCooks_6] at hd
    cases hd
  | succ f ih =>
    intro u x1 x2 hd
    rw [d_M_startsWithCooks_6] at hd
    refine v_iload_n dX7_startsWithCooks_6 rfl ?_
    refine v_aload_n dX7_startsWithCooks_7 rfl ?_
    refine v_get (v := .int (u 0 3)) dX7_startsWithCooks_8 fl_X7_67 rfl rfl ?_
    refine v_icmp_ge (tgt := 49) dX7_startsWithCooks_11 (by decide) (fun zc3 => ?_) (fun zc3 => ?_)
    · have hd := g_t hd zc3
      obtain rfl := Option.some.inj hd
      exact v_vretE dX7_startsWithCooks_49 rfl rfl rfl
    · have hd := g_f hd zc3
      refine v_aload_n dX7_startsWithCooks_14 rfl ?_
      refine v_get (v := .ref 2) dX7_startsWithCooks_15 fl_X7_13 rfl rfl ?_
      refine v_iconst dX7_startsWithCooks_18 ic_0 ?_
      refine v_iload_n dX7_startsWithCooks_19 rfl ?_
      refine v_iadd dX7_startsWithCooks_20 ?_
      refine v_iload_n dX7_startsWithCooks_21 rfl ?_
      refine v_iload_n dX7_startsWithCooks_22 rfl ?_
      refine v_ishr dX7_startsWithCooks_23 ?_
      refine v_iconst dX7_startsWithCooks_24 ic_1 ?_
      refine v_iand dX7_startsWithCooks_25 ?_
      refine v_iconst dX7_startsWithCooks_26 ic_1 ?_
      refine v_icmp_ne (tgt := 34) dX7_startsWithCooks_27 (by decide) (fun zc4 => ?_) (fun zc4 => ?_)
      · have hd := g_f hd zc4
        refine v_aload_n dX7_startsWithCooks_34 rfl ?_
        refine v_get (v := .ref 2) dX7_startsWithCooks_35 fl_X7_13 rfl rfl ?_
        refine v_iconst dX7_startsWithCooks_38 ic_0 ?_
        refine v_iload_n dX7_startsWithCooks_39 rfl ?_
        refine v_iadd dX7_startsWithCooks_40 ?_
        obtain ⟨zg5, hd⟩ := g_b hd
        refine v_iald (f := (u 2)) dX7_startsWithCooks_41 rfl (gi_in zg5) ?_
        exact v_M_startsWithCooks_42 w (d_M_startsWithCooks_6 f) (ih) u x1 x2 ((0 : Int32) + x2) ((u 2) ((0 : Int32) + x2).toNatClampNeg) hd
      · have hd := g_t hd zc4
        refine v_iconst dX7_startsWithCooks_30 ic_3 ?_
        refine v_goto (tgt := 42) dX7_startsWithCooks_31 (by decide) ?_
        exact v_M_startsWithCooks_42 w (d_M_startsWithCooks_6 f) (ih) u x1 x2 ((0 : Int32) + x2) (3 : Int32) hd
def d_M_startsWithCooks (u : (Nat → Nat → Int32)) (a1 : Int32) : Option ((Nat → Nat → Int32)) := (d_M_starts u).bind fun zr1 => d_M_startsWithCooks_6 FU zr1 a1 (0 : Int32)
set_option maxRecDepth 100000 in
set_option maxHeartbeats 4000000 in
theorem v_M_startsWithCooks (u : (Nat → Nat → Int32)) (a1 : Int32) (w : Nat → Int64) {r : (Nat → Nat → Int32)} (hd : d_M_startsWithCooks u a1 = some r) : Vd RX7 "startsWithCooks" cX7_startsWithCooks 3 none (rm 1) (ab_eq none (h_M r w)) 0 0 0 0 0 [(0, .ref 0), (1, .int a1)] [] (h_M u w) := by
  unfold d_M_startsWithCooks at hd
  refine v_aload_n dX7_startsWithCooks_0 rfl ?_
  obtain ⟨zr1, zh2, hd⟩ := g_bind hd
  refine v_cI (dy := 0) (st := []) (st2 := []) dX7_startsWithCooks_1 mv_X7_170 (m_M_starts u w zh2) rfl rfl rfl rfl rfl (by decide) (by decide) rfl rfl ?_
  refine v_iconst dX7_startsWithCooks_4 ic_0 ?_
  refine v_istore_n (i := 2) (L2 := [(2, .int (0 : Int32)), (0, .ref 0), (1, .int a1)]) dX7_startsWithCooks_5 rfl (Nat.le_of_ble_eq_true rfl) rfl ?_
  refine v_loc [1, 2, 0] rfl ?_
  exact v_M_startsWithCooks_6 w FU zr1 a1 (0 : Int32) hd
theorem m_M_startsWithCooks (u : (Nat → Nat → Int32)) (a1 : Int32) (w : Nat → Int64) {r : (Nat → Nat → Int32)} (hd : d_M_startsWithCooks u a1 = some r) : Mt yX7_startsWithCooks cX7_startsWithCooks 3 none (rm 1) [.ref 0, .int a1] (h_M u w) (ab_eq none (h_M r w)) := Mt.of (by decide +kernel) (fun _ _ _ => trivial) (Nat.le_of_ble_eq_true rfl) (v_M_startsWithCooks u a1 w hd)
