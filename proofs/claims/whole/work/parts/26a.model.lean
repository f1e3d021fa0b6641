
def d_M_firstDraft_2  : Nat → (Nat → Nat → Int32) → Int32 → Option ((Nat → Nat → Int32))
  | 0, _, _ => none
  | f + 1, u, x1 => if (41 : Int32) ≤ x1 then (some (pw (pw (pw (pw (pw u 4 (16 : Int32).toNatClampNeg (3 : Int32)) 0 5 (0 : Int32)) 0 6 (0 : Int32)) 0 7 (0 : Int32)) 0 9 (-4 : Int32))) else (if gi x1 41 = true then dl (pw u 4 x1.toNatClampNeg (0 : Int32)) fun zu3 => dl (x1 + (1 : Int32)) fun zy5 => d_M_firstDraft_2 f zu3 zy5 else none)
set_option maxRecDepth 100000 in
set_option maxHeartbeats 4000000 in
theorem v_M_firstDraft_2 (w : Nat → Int64) {r : (Nat → Nat → Int32)}  : ∀ (f : Nat) (u : (Nat → Nat → Int32)) (x1 : Int32), d_M_firstDraft_2  f u x1 = some r → Vd RX7 "firstDraft" cX7_firstDraft 2 none (rm 0) (ab_eq none (h_M r w)) 0 0 0 0 2 [(0, .ref 0), (1, .int x1)] [] (h_M u w) := by
  intro f
  induction f with
  | zero =>
    intro u x1 hd
    rw [d_M_firstDraft_2] at hd
    cases hd
  | succ f ih =>
    intro u x1 hd
    rw [d_M_firstDraft_2] at hd
    refine v_iload_n dX7_firstDraft_2 rfl ?_
    refine v_bipush dX7_firstDraft_3 bp_41 ?_
    refine v_icmp_ge (tgt := 21) dX7_firstDraft_5 (by decide) (fun zc1 => ?_) (fun zc1 => ?_)
    · have hd := g_t hd zc1
      refine v_aload_n dX7_firstDraft_21 rfl ?_
      refine v_get (v := .ref 4) dX7_firstDraft_22 fl_X7_20 rfl rfl ?_
      refine v_bipush dX7_firstDraft_25 bp_16 ?_
      refine v_iconst dX7_firstDraft_27 ic_3 ?_
      refine v_ist (f := (u 4)) (h2 := (h_M (pw u 4 (16 : Int32).toNatClampNeg (3 : Int32)) w)) dX7_firstDraft_28 rfl gl_16_41 rfl ?_
      refine v_aload_n dX7_firstDraft_29 rfl ?_
      refine v_iconst dX7_firstDraft_30 ic_0 ?_
      refine v_pti (h2 := (h_M (pw (pw u 4 (16 : Int32).toNatClampNeg (3 : Int32)) 0 5 (0 : Int32)) w)) dX7_firstDraft_31 fl_X7_53 rfl (Nat.le_of_ble_eq_true rfl) rfl ?_
      refine v_aload_n dX7_firstDraft_34 rfl ?_
      refine v_iconst dX7_firstDraft_35 ic_0 ?_
      refine v_ptz (h2 := (h_M (pw (pw (pw u 4 (16 : Int32).toNatClampNeg (3 : Int32)) 0 5 (0 : Int32)) 0 6 (0 : Int32)) w)) dX7_firstDraft_36 fl_X7_57 rfl (Or.inl rfl) (Nat.le_of_ble_eq_true rfl) rfl ?_
      refine v_aload_n dX7_firstDraft_39 rfl ?_
      refine v_iconst dX7_firstDraft_40 ic_0 ?_
      refine v_pti (h2 := (h_M (pw (pw (pw (pw u 4 (16 : Int32).toNatClampNeg (3 : Int32)) 0 5 (0 : Int32)) 0 6 (0 : Int32)) 0 7 (0 : Int32)) w)) dX7_firstDraft_41 fl_X7_61 rfl (Nat.le_of_ble_eq_true rfl) rfl ?_
      refine v_aload_n dX7_firstDraft_44 rfl ?_
      refine v_bipush dX7_firstDraft_45 bp_m4 ?_
      refine v_pti (h2 := (h_M (pw (pw (pw (pw (pw u 4 (16 : Int32).toNatClampNeg (3 : Int32)) 0 5 (0 : Int32)) 0 6 (0 : Int32)) 0 7 (0 : Int32)) 0 9 (-4 : Int32)) w)) dX7_firstDraft_47 fl_X7_64 rfl (Nat.le_of_ble_eq_true rfl) rfl ?_
      obtain rfl := Option.some.inj hd
      exact v_vretE dX7_firstDraft_50 rfl rfl rfl
    · have hd := g_f hd zc1
      refine v_aload_n dX7_firstDraft_8 rfl ?_
      refine v_get (v := .ref 4) dX7_firstDraft_9 fl_X7_20 rfl rfl ?_
      refine v_iload_n dX7_firstDraft_12 rfl ?_
      refine v_iconst dX7_firstDraft_13 ic_0 ?_
      obtain ⟨zg2, hd⟩ := g_b hd
      refine v_ist (f := (u 4)) (h2 := (h_M (pw u 4 x1.toNatClampNeg (0 : Int32)) w)) dX7_firstDraft_14 rfl (gi_in zg2) rfl ?_
      refine v_nmu (F := fun z => (h_M z w)) (e := (pw u 4 x1.toNatClampNeg (0 : Int32))) (fun zu3 ze4 => ?_)
      have hd := dl_n hd zu3 ze4
      obtain ⟨zy5, ze6⟩ : ∃ z : Int32, z = (x1 + (1 : Int32)) := ⟨_, rfl⟩
      have hd := dl_n hd zy5 ze6
      refine v_iinc (v := zy5) (L2 := [(1, .int zy5), (0, .ref 0)]) dX7_firstDraft_15 rfl (by rw [ic_1]; exact ze6.symm) (Nat.le_of_ble_eq_true rfl) rfl ?_
      refine v_goto (tgt := 2) dX7_firstDraft_18 (by decide) ?_
      refine v_loc [1, 0] rfl ?_
      exact ih zu3 zy5 hd
def d_M_firstDraft (u : (Nat → Nat → Int32)) : Option ((Nat → Nat → Int32)) := d_M_firstDraft_2 FU u (0 : Int32)
set_option maxRecDepth 100000 in
set_option maxHeartbeats 4000000 in
theorem v_M_firstDraft (u : (Nat → Nat → Int32)) (w : Nat → Int64) {r : (Nat → Nat → Int32)} (hd : d_M_firstDraft u = some r) : Vd RX7 "firstDraft" cX7_firstDraft 2 none (rm 0) (ab_eq none (h_M r w)) 0 0 0 0 0 [(0, .ref 0)] [] (h_M u w) := by
  unfold d_M_firstDraft at hd
  refine v_iconst dX7_firstDraft_0 ic_0 ?_
  refine v_istore_n (i := 1) (L2 := [(1, .int (0 : Int32)), (0, .ref 0)]) dX7_firstDraft_1 rfl (Nat.le_of_ble_eq_true rfl) rfl ?_
  refine v_loc [1, 0] rfl ?_
  exact v_M_firstDraft_2 w FU u (0 : Int32) hd
theorem m_M_firstDraft (u : (Nat → Nat → Int32)) (w : Nat → Int64) {r : (Nat → Nat → Int32)} (hd : d_M_firstDraft u = some r) : Mt yX7_firstDraft cX7_firstDraft 2 none (rm 0) [.ref 0] (h_M u w) (ab_eq none (h_M r w)) := Mt.of (by decide +kernel) (fun _ _ _ => trivial) (Nat.le_of_ble_eq_true rfl) (v_M_firstDraft u w hd)

def d_M_keepDraft_2  : Nat → (Nat → Nat → Int32) → Int32 → Option ((Nat → Nat → Int32))
  | 0, _, _ => none
  | f + 1, u, x1 => if (41 : Int32) ≤ x1 then (dl (u 0 5) fun zy2 => some (pw (pw (pw u 0 3 zy2) 3 (0 : Int32).toNatClampNeg (vp_nar .boolean (0 : Int32))) 3 (1 : Int32).toNatClampNeg (vp_nar .boolean (0 : Int32)))) else (if gi x1 41 = true then if gi x1 123 = true then dl ((u 4) x1.toNatClampNeg) fun zy6 => dl (pw u 1 x1.toNatClampNeg zy6) fun zu8 => dl (x1 + (1 : Int32)) fun zy10 => d_M_keepDraft_2 f zu8 zy10 else none else none)
set_option maxRecDepth 100000 in
set_option maxHeartbeats 4000000 in
theorem v_M_keepDraft_2 (w : Nat → Int64) {r : (Nat → Nat → Int32)}  : ∀ (f : Nat) (u : (Nat → Nat → Int32)) (x1 : Int32), d_M_keepDraft_2  f u x1 = some r → Vd RX7 "keepDraft" cX7_keepDraft 2 none (rm 0) (ab_eq none (h_M r w)) 0 0 0 0 2 [(0, .ref 0), (1, .int x1)] [] (h_M u w) := by
  intro f
  induction f with
  | zero =>
    intro u x1 hd
    rw [d_M_keepDraft_2] at hd
    cases hd
  | succ f ih =>
    intro u x1 hd
    rw [d_M_keepDraft_2] at hd
    refine v_iload_n dX7_keepDraft_2 rfl ?_
    refine v_bipush dX7_keepDraft_3 bp_41 ?_
    refine v_icmp_ge (tgt := 26) dX7_keepDraft_5 (by decide) (fun zc1 => ?_) (fun zc1 => ?_)
    · have hd := g_t hd zc1
      refine v_aload_n dX7_keepDraft_26 rfl ?_
      refine v_aload_n dX7_keepDraft_27 rfl ?_
      refine v_get (v := .int (u 0 5)) dX7_keepDraft_28 fl_X7_53 rfl rfl ?_
      refine v_topi (fun zy2 ze3 => ?_)
      have hd := dl_n hd zy2 ze3
      refine v_pti (h2 := (h_M (pw u 0 3 zy2) w)) dX7_keepDraft_31 fl_X7_67 rfl (Nat.le_of_ble_eq_true rfl) rfl ?_
      refine v_aload_n dX7_keepDraft_34 rfl ?_
      refine v_get (v := .ref 3) dX7_keepDraft_35 fl_X7_16 rfl rfl ?_
      refine v_iconst dX7_keepDraft_38 ic_0 ?_
      refine v_iconst dX7_keepDraft_39 ic_0 ?_
      refine v_zst (f := (u 3)) (h2 := (h_M (pw (pw u 0 3 zy2) 3 (0 : Int32).toNatClampNeg (vp_nar .boolean (0 : Int32))) w)) dX7_keepDraft_40 rfl gl_0_2 rfl ?_
      refine v_aload_n dX7_keepDraft_41 rfl ?_
      refine v_get (v := .ref 3) dX7_keepDraft_42 fl_X7_16 rfl rfl ?_
      refine v_iconst dX7_keepDraft_45 ic_1 ?_
      refine v_iconst dX7_keepDraft_46 ic_0 ?_
      refine v_zst (f := (upd (u 3) (0 : Int32).toNatClampNeg (vp_nar .boolean (0 : Int32)))) (h2 := (h_M (pw (pw (pw u 0 3 zy2) 3 (0 : Int32).toNatClampNeg (vp_nar .boolean (0 : Int32))) 3 (1 : Int32).toNatClampNeg (vp_nar .boolean (0 : Int32))) w)) dX7_keepDraft_47 rfl gl_1_2 rfl ?_
      obtain rfl := Option.some.inj hd
      exact v_vretE dX7_keepDraft_48 rfl rfl rfl
    · have hd := g_f hd zc1
      refine v_aload_n dX7_keepDraft_8 rfl ?_
      refine v_get (v := .ref 1) dX7_keepDraft_9 fl_X7_7 rfl rfl ?_
      refine v_iload_n dX7_keepDraft_12 rfl ?_
      refine v_aload_n dX7_keepDraft_13 rfl ?_
      refine v_get (v := .ref 4) dX7_keepDraft_14 fl_X7_20 rfl rfl ?_
      refine v_iload_n dX7_keepDraft_17 rfl ?_
      obtain ⟨zg4, hd⟩ := g_b hd
      refine v_iald (f := (u 4)) dX7_keepDraft_18 rfl (gi_in zg4) ?_
      obtain ⟨zg5, hd⟩ := g_b hd
      refine v_topi (fun zy6 ze7 => ?_)
      have hd := dl_n hd zy6 ze7
      refine v_ist (f := (u 1)) (h2 := (h_M (pw u 1 x1.toNatClampNeg zy6) w)) dX7_keepDraft_19 rfl (gi_in zg5) rfl ?_
      refine v_nmu (F := fun z => (h_M z w)) (e := (pw u 1 x1.toNatClampNeg zy6)) (fun zu8 ze9 => ?_)
      have hd := dl_n hd zu8 ze9
      obtain ⟨zy10, ze11⟩ : ∃ z : Int32, z = (x1 + (1 : Int32)) := ⟨_, rfl⟩
      have hd := dl_n hd zy10 ze11
      refine v_iinc (v := zy10) (L2 := [(1, .int zy10), (0, .ref 0)]) dX7_keepDraft_20 rfl (by rw [ic_1]; exact ze11.symm) (Nat.le_of_ble_eq_true rfl) rfl ?_
      refine v_goto (tgt := 2) dX7_keepDraft_23 (by decide) ?_
      refine v_loc [1, 0] rfl ?_
      exact ih zu8 zy10 hd
def d_M_keepDraft (u : (Nat → Nat → Int32)) : Option ((Nat → Nat → Int32)) := d_M_keepDraft_2 FU u (0 : Int32)
set_option maxRecDepth 100000 in
set_option maxHeartbeats 4000000 in
theorem v_M_keepDraft (u : (Nat → Nat → Int32)) (w : Nat → Int64) {r : (Nat → Nat → Int32)} (hd : d_M_keepDraft u = some r) : Vd RX7 "keepDraft" cX7_keepDraft 2 none (rm 0) (ab_eq none (h_M r w)) 0 0 0 0 0 [(0, .ref 0)] [] (h_M u w) := by
  unfold d_M_keepDraft at hd
  refine v_iconst dX7_keepDraft_0 ic_0 ?_
  refine v_istore_n (i := 1) (L2 := [(1, .int (0 : Int32)), (0, .ref 0)]) dX7_keepDraft_1 rfl (Nat.le_of_ble_eq_true rfl) rfl ?_
  refine v_loc [1, 0] rfl ?_
  exact v_M_keepDraft_2 w FU u (0 : Int32) hd
theorem m_M_keepDraft (u : (Nat → Nat → Int32)) (w : Nat → Int64) {r : (Nat → Nat → Int32)} (hd : d_M_keepDraft u = some r) : Mt yX7_keepDraft cX7_keepDraft 2 none (rm 0) [.ref 0] (h_M u w) (ab_eq none (h_M r w)) := Mt.of (by decide +kernel) (fun _ _ _ => trivial) (Nat.le_of_ble_eq_true rfl) (v_M_keepDraft u w hd)
def d_M_feed (u : (Nat → Nat → Int32)) (a1 : Int32) : Option (Int32 × (Nat → Nat → Int32)) := (d_P_in a1.toInt64 (0 : Int64) (127 : Int64)).bind fun zr1 => if zr1 = 0 then (some ((-1 : Int32), u)) else (if (u 0 11) = (160 : Int32) then (some ((-3 : Int32), u)) else (if gi (u 0 11) 160 = true then dl (pw u 6 (u 0 11).toNatClampNeg a1) fun zu6 => dl ((zu6 0 11) + (1 : Int32)) fun zy8 => some (zy8, (pw zu6 0 11 zy8)) else none))
set_option maxRecDepth 100000 in
set_option maxHeartbeats 4000000 in
theorem v_M_feed (u : (Nat → Nat → Int32)) (a1 : Int32) (w : Nat → Int64) {r : Int32 × (Nat → Nat → Int32)} (hd : d_M_feed u a1 = some r) : Vd RX7 "feed" cX7_feed 2 (some .int) (rm 1) (ab_eq (some (.int r.1)) (h_M r.2 w)) 0 0 0 0 0 [(0, .ref 0), (1, .int a1)] [] (h_M u w) := by
  unfold d_M_feed at hd
  refine v_iload_n dX7_feed_0 rfl ?_
  refine v_i2l dX7_feed_1 ?_
  refine v_lconst (v := 0) dX7_feed_2 rfl ?_
  refine v_ldc2 dX7_feed_3 kc_X7_70 ?_
  obtain ⟨zr1, zh2, hd⟩ := g_bind hd
  refine v_cS (dy := 0) (st := []) (st2 := [.int zr1]) (h2 := (h_M u w)) [] dX7_feed_6 mz_X7_72 (m_P_in a1.toInt64 (0 : Int64) (127 : Int64) zh2) rfl rfl rfl rfl rfl rfl (by decide) (by decide) rfl rfl rfl ?_
  refine v_if_ne (tgt := 14) dX7_feed_9 (by decide) (fun zc3 => ?_) (fun zc3 => ?_)
  · have hd := g_f hd zc3
    refine v_aload_n dX7_feed_14 rfl ?_
    refine v_get (v := .int (u 0 11)) dX7_feed_15 fl_X7_76 rfl rfl ?_
    refine v_sipush dX7_feed_18 sp_160 ?_
    refine v_icmp_ne (tgt := 27) dX7_feed_21 (by decide) (fun zc4 => ?_) (fun zc4 => ?_)
    · have hd := g_f hd zc4
      refine v_aload_n dX7_feed_27 rfl ?_
      refine v_get (v := .ref 6) dX7_feed_28 fl_X7_26 rfl rfl ?_
      refine v_aload_n dX7_feed_31 rfl ?_
      refine v_get (v := .int (u 0 11)) dX7_feed_32 fl_X7_76 rfl rfl ?_
      refine v_iload_n dX7_feed_35 rfl ?_
      obtain ⟨zg5, hd⟩ := g_b hd
      refine v_ist (f := (u 6)) (h2 := (h_M (pw u 6 (u 0 11).toNatClampNeg a1) w)) dX7_feed_36 rfl (gi_in zg5) rfl ?_
      refine v_nmu (F := fun z => (h_M z w)) (e := (pw u 6 (u 0 11).toNatClampNeg a1)) (fun zu6 ze7 => ?_)
      have hd := dl_n hd zu6 ze7
      refine v_aload_n dX7_feed_37 rfl ?_
      refine v_dup dX7_feed_38 rfl ?_
      refine v_get (v := .int (zu6 0 11)) dX7_feed_39 fl_X7_76 rfl rfl ?_
      refine v_iconst dX7_feed_42 ic_1 ?_
      refine v_iadd dX7_feed_43 ?_
      refine v_topi (fun zy8 ze9 => ?_)
      have hd := dl_n hd zy8 ze9
      refine v_pti (h2 := (h_M (pw zu6 0 11 zy8) w)) dX7_feed_44 fl_X7_76 rfl (Nat.le_of_ble_eq_true rfl) rfl ?_
      refine v_aload_n dX7_feed_47 rfl ?_
      refine v_get (v := .int zy8) dX7_feed_48 fl_X7_76 rfl rfl ?_
      obtain rfl := Option.some.inj hd
      exact v_iretE dX7_feed_51 rfl rfl rfl rfl
    · have hd := g_t hd zc4
      refine v_bipush dX7_feed_24 bp_m3 ?_
      obtain rfl := Option.some.inj hd
      exact v_iretE dX7_feed_26 rfl rfl rfl rfl
  · have hd := g_t hd zc3
    refine v_iconst dX7_feed_12 ic_m1 ?_
    obtain rfl := Option.some.inj hd
    exact v_iretE dX7_feed_13 rfl rfl rfl rfl
theorem m_M_feed (u : (Nat → Nat → Int32)) (a1 : Int32) (w : Nat → Int64) {r : Int32 × (Nat → Nat → Int32)} (hd : d_M_feed u a1 = some r) : Mt yX7_feed cX7_feed 2 (some .int) (rm 1) [.ref 0, .int a1] (h_M u w) (ab_eq (some (.int r.1)) (h_M r.2 w)) := Mt.of (by decide +kernel) (fun _ _ _ => trivial) (Nat.le_of_ble_eq_true rfl) (v_M_feed u a1 w hd)
def d_M_end (u : (Nat → Nat → Int32)) (a1 : Int32) : Option (Int32 × (Nat → Nat → Int32)) := (d_P_in a1.toInt64 (0 : Int64) ((u 0 11).toInt64)).bind fun zr1 => if zr1 = 0 then (some ((-1 : Int32), u)) else (dl (u 0 11) fun zy4 => some (zy4, (pw u 0 11 a1)))
set_option maxRecDepth 100000 in
set_option maxHeartbeats 4000000 in
theorem v_M_end (u : (Nat → Nat → Int32)) (a1 : Int32) (w : Nat → Int64) {r : Int32 × (Nat → Nat → Int32)} (hd : d_M_end u a1 = some r) : Vd RX7 "end" cX7_end 3 (some .int) (rm 1) (ab_eq (some (.int r.1)) (h_M r.2 w)) 0 0 0 0 0 [(0, .ref 0), (1, .int a1)] [] (h_M u w) := by
  unfold d_M_end at hd
  refine v_iload_n dX7_end_0 rfl ?_
  refine v_i2l dX7_end_1 ?_
  refine v_lconst (v := 0) dX7_end_2 rfl ?_
  refine v_aload_n dX7_end_3 rfl ?_
  refine v_get (v := .int (u 0 11)) dX7_end_4 fl_X7_76 rfl rfl ?_
  refine v_i2l dX7_end_7 ?_
  obtain ⟨zr1, zh2, hd⟩ := g_bind hd
  refine v_cS (dy := 0) (st := []) (st2 := [.int zr1]) (h2 := (h_M u w)) [] dX7_end_8 mz_X7_72 (m_P_in a1.toInt64 (0 : Int64) ((u 0 11).toInt64) zh2) rfl rfl rfl rfl rfl rfl (by decide) (by decide) rfl rfl rfl ?_
  refine v_if_ne (tgt := 16) dX7_end_11 (by decide) (fun zc3 => ?_) (fun zc3 => ?_)
  · have hd := g_f hd zc3
    refine v_aload_n dX7_end_16 rfl ?_
    refine v_get (v := .int (u 0 11)) dX7_end_17 fl_X7_76 rfl rfl ?_
    refine v_topi (fun zy4 ze5 => ?_)
    have hd := dl_n hd zy4 ze5
    refine v_istore_n (i := 2) (L2 := [(2, .int zy4), (0, .ref 0), (1, .int a1)]) dX7_end_20 rfl (Nat.le_of_ble_eq_true rfl) rfl ?_
    refine v_aload_n dX7_end_21 rfl ?_
    refine v_iload_n dX7_end_22 rfl ?_
    refine v_pti (h2 := (h_M (pw u 0 11 a1) w)) dX7_end_23 fl_X7_76 rfl (Nat.le_of_ble_eq_true rfl) rfl ?_
    refine v_iload_n dX7_end_26 rfl ?_
    obtain rfl := Option.some.inj hd
    exact v_iretE dX7_end_27 rfl rfl rfl rfl
  · have hd := g_t hd zc3
    refine v_iconst dX7_end_14 ic_m1 ?_
    obtain rfl := Option.some.inj hd
    exact v_iretE dX7_end_15 rfl rfl rfl rfl
theorem m_M_end (u : (Nat → Nat → Int32)) (a1 : Int32) (w : Nat → Int64) {r : Int32 × (Nat → Nat → Int32)} (hd : d_M_end u a1 = some r) : Mt yX7_end cX7_end 3 (some .int) (rm 1) [.ref 0, .int a1] (h_M u w) (ab_eq (some (.int r.1)) (h_M r.2 w)) := Mt.of (by decide +kernel) (fun _ _ _ => trivial) (Nat.le_of_ble_eq_true rfl) (v_M_end u a1 w hd)
def d_M_needs (u : (Nat → Nat → Int32)) (a1 : Int32) (a2 : Int32) : Option ((Nat → Nat → Int32)) := if a1 = 0 then (if (u 0 16) = 0 then (dl (u 0 13) fun zy3 => some (pw (pw u 0 16 a2) 0 17 zy3)) else (some u)) else (some u)
set_option maxRecDepth 100000 in
set_option maxHeartbeats 4000000 in
theorem v_M_needs (u : (Nat → Nat → Int32)) (a1 : Int32) (a2 : Int32) (w : Nat → Int64) {r : (Nat → Nat → Int32)} (hd : d_M_needs u a1 a2 = some r) : Vd RX7 "needs" cX7_needs 3 none (rm 0) (ab_eq none (h_M r w)) 0 0 0 0 0 [(0, .ref 0), (1, .int a1), (2, .int a2)] [] (h_M u w) := by
  unfold d_M_needs at hd
  refine v_iload_n dX7_needs_0 rfl ?_
  refine v_if_ne (tgt := 24) dX7_needs_1 (by decide) (fun zc1 => ?_) (fun zc1 => ?_)
  · have hd := g_f hd zc1
    obtain rfl := Option.some.inj hd
    exact v_vretE dX7_needs_24 rfl rfl rfl
  · have hd := g_t hd zc1
    refine v_aload_n dX7_needs_4 rfl ?_
    refine v_get (v := .int (u 0 16)) dX7_needs_5 fl_X7_79 rfl rfl ?_
    refine v_if_ne (tgt := 24) dX7_needs_8 (by decide) (fun zc2 => ?_) (fun zc2 => ?_)
    · have hd := g_f hd zc2
      obtain rfl := Option.some.inj hd
      exact v_vretE dX7_needs_24 rfl rfl rfl
    · have hd := g_t hd zc2
      refine v_aload_n dX7_needs_11 rfl ?_
      refine v_iload_n dX7_needs_12 rfl ?_
      refine v_pti (h2 := (h_M (pw u 0 16 a2) w)) dX7_needs_13 fl_X7_79 rfl (Nat.le_of_ble_eq_true rfl) rfl ?_
      refine v_aload_n dX7_needs_16 rfl ?_
      refine v_aload_n dX7_needs_17 rfl ?_
      refine v_get (v := .int (u 0 13)) dX7_needs_18 fl_X7_82 rfl rfl ?_
      refine v_topi (fun zy3 ze4 => ?_)
      have hd := dl_n hd zy3 ze4
      refine v_pti (h2 := (h_M (pw (pw u 0 16 a2) 0 17 zy3) w)) dX7_needs_21 fl_X7_85 rfl (Nat.le_of_ble_eq_true rfl) rfl ?_
      obtain rfl := Option.some.inj hd
      exact v_vretE dX7_needs_24 rfl rfl rfl
theorem m_M_needs (u : (Nat → Nat → Int32)) (a1 : Int32) (a2 : Int32) (w : Nat → Int64) {r : (Nat → Nat → Int32)} (hd : d_M_needs u a1 a2 = some r) : Mt yX7_needs cX7_needs 3 none (rm 0) [.ref 0, .int a1, .int a2] (h_M u w) (ab_eq none (h_M r w)) := Mt.of (by decide +kernel) (fun _ _ _ => trivial) (Nat.le_of_ble_eq_true rfl) (v_M_needs u a1 a2 w hd)
def d_M_byteAt (u : (Nat → Nat → Int32)) (a1 : Int32) : Option Int32 := if (u 0 11) ≤ a1 then (some (-1 : Int32)) else (if gi a1 160 = true then some ((u 6) a1.toNatClampNeg) else none)
set_option maxRecDepth 100000 in
set_option maxHeartbeats 4000000 in
theorem v_M_byteAt (u : (Nat → Nat → Int32)) (a1 : Int32) (w : Nat → Int64) {r : Int32} (hd : d_M_byteAt u a1 = some r) : Vd RX7 "byteAt" cX7_byteAt 2 (some .int) (rm 0) (ab_eq (some (.int r)) (h_M u w)) 0 0 0 0 0 [(0, .ref 0), (1, .int a1)] [] (h_M u w) := by
  unfold d_M_byteAt at hd
  refine v_iload_n dX7_byteAt_0 rfl ?_
  refine v_aload_n dX7_byteAt_1 rfl ?_
  refine v_get (v := .int (u 0 11)) dX7_byteAt_2 fl_X7_76 rfl rfl ?_
  refine v_icmp_ge (tgt := 17) dX7_byteAt_5 (by decide) (fun zc1 => ?_) (fun zc1 => ?_)
  · have hd := g_t hd zc1
    refine v_iconst dX7_byteAt_17 ic_m1 ?_
    obtain rfl := Option.some.inj hd
    exact v_iretE dX7_byteAt_18 rfl rfl rfl rfl
  · have hd := g_f hd zc1
    refine v_aload_n dX7_byteAt_8 rfl ?_
    refine v_get (v := .ref 6) dX7_byteAt_9 fl_X7_26 rfl rfl ?_
    refine v_iload_n dX7_byteAt_12 rfl ?_
    obtain ⟨zg2, hd⟩ := g_b hd
    refine v_iald (f := (u 6)) dX7_byteAt_13 rfl (gi_in zg2) ?_
    refine v_goto (tgt := 18) dX7_byteAt_14 (by decide) ?_
    obtain rfl := Option.some.inj hd
    exact v_iretE dX7_byteAt_18 rfl rfl rfl rfl
theorem m_M_byteAt (u : (Nat → Nat → Int32)) (a1 : Int32) (w : Nat → Int64) {r : Int32} (hd : d_M_byteAt u a1 = some r) : Mt yX7_byteAt cX7_byteAt 2 (some .int) (rm 0) [.ref 0, .int a1] (h_M u w) (ab_eq (some (.int r)) (h_M u w)) := Mt.of (by decide +kernel) (fun _ _ _ => trivial) (Nat.le_of_ble_eq_true rfl) (v_M_byteAt u a1 w hd)
def d_M_is (u : (Nat → Nat → Int32)) (a1 : Int32) (a2 : Int32) (a3 : Int32) (a4 : Int32) : Option Int32 := if ((u 0 12) - (u 0 13)) = a1 then ((d_M_byteAt u (u 0 13)).bind fun zr2 => if zr2 = a2 then ((d_M_byteAt u ((u 0 13) + (1 : Int32))).bind fun zr5 => if zr5 = a3 then ((d_M_byteAt u ((u 0 13) + (2 : Int32))).bind fun zr8 => if zr8 = a4 then (some (1 : Int32)) else (some (0 : Int32))) else (some (0 : Int32))) else (some (0 : Int32))) else (some (0 : Int32))
set_option maxRecDepth 100000 in
set_option maxHeartbeats 4000000 in
theorem v_M_is (u : (Nat → Nat → Int32)) (a1 : Int32) (a2 : Int32) (a3 : Int32) (a4 : Int32) (w : Nat → Int64) {r : Int32} (hd : d_M_is u a1 a2 a3 a4 = some r) : Vd RX7 "is" cX7_is 5 (some .boolean) (rm 1) (ab_eq (some (.int r)) (h_M u w)) 0 0 0 0 0 [(0, .ref 0), (1, .int a1), (2, .int a2), (3, .int a3), (4, .int a4)] [] (h_M u w) := by
  unfold d_M_is at hd
  refine v_aload_n dX7_is_0 rfl ?_
  refine v_get (v := .int (u 0 12)) dX7_is_1 fl_X7_88 rfl rfl ?_
  refine v_aload_n dX7_is_4 rfl ?_
  refine v_get (v := .int (u 0 13)) dX7_is_5 fl_X7_82 rfl rfl ?_
  refine v_isub dX7_is_8 ?_
  refine v_iload_n dX7_is_9 rfl ?_
  refine v_icmp_ne (tgt := 58) dX7_is_10 (by decide) (fun zc1 => ?_) (fun zc1 => ?_)
  · have hd := g_f hd zc1
    refine v_iconst dX7_is_58 ic_0 ?_
    obtain rfl := Option.some.inj hd
    exact v_iretE dX7_is_59 rfl rfl rfl rfl
  · have hd := g_t hd zc1
    refine v_aload_n dX7_is_13 rfl ?_
    refine v_aload_n dX7_is_14 rfl ?_
    refine v_get (v := .int (u 0 13)) dX7_is_15 fl_X7_82 rfl rfl ?_
    obtain ⟨zr2, zh3, hd⟩ := g_bind hd
    refine v_cI (dy := 0) (st := []) (st2 := [.int zr2]) dX7_is_18 mv_X7_91 (m_M_byteAt u (u 0 13) w zh3) rfl rfl rfl rfl rfl (by decide) (by decide) rfl rfl ?_
    refine v_iload_n dX7_is_21 rfl ?_
    refine v_icmp_ne (tgt := 58) dX7_is_22 (by decide) (fun zc4 => ?_) (fun zc4 => ?_)
    · have hd := g_f hd zc4
      refine v_iconst dX7_is_58 ic_0 ?_
      obtain rfl := Option.some.inj hd
      exact v_iretE dX7_is_59 rfl rfl rfl rfl
    · have hd := g_t hd zc4
      refine v_aload_n dX7_is_25 rfl ?_
      refine v_aload_n dX7_is_26 rfl ?_
      refine v_get (v := .int (u 0 13)) dX7_is_27 fl_X7_82 rfl rfl ?_
      refine v_iconst dX7_is_30 ic_1 ?_
      refine v_iadd dX7_is_31 ?_
      obtain ⟨zr5, zh6, hd⟩ := g_bind hd
      refine v_cI (dy := 0) (st := []) (st2 := [.int zr5]) dX7_is_32 mv_X7_91 (m_M_byteAt u ((u 0 13) + (1 : Int32)) w zh6) rfl rfl rfl rfl rfl (by decide) (by decide) rfl rfl ?_
      refine v_iload_n dX7_is_35 rfl ?_
      refine v_icmp_ne (tgt := 58) dX7_is_36 (by decide) (fun zc7 => ?_) (fun zc7 => ?_)
      · have hd := g_f hd zc7
        refine v_iconst dX7_is_58 ic_0 ?_
        obtain rfl := Option.some.inj hd
        exact v_iretE dX7_is_59 rfl rfl rfl rfl
      · have hd := g_t hd zc7
        refine v_aload_n dX7_is_39 rfl ?_
        refine v_aload_n dX7_is_40 rfl ?_
        refine v_get (v := .int (u 0 13)) dX7_is_41 fl_X7_82 rfl rfl ?_
        refine v_iconst dX7_is_44 ic_2 ?_
        refine v_iadd dX7_is_45 ?_
        obtain ⟨zr8, zh9, hd⟩ := g_bind hd
        refine v_cI (dy := 0) (st := []) (st2 := [.int zr8]) dX7_is_46 mv_X7_91 (m_M_byteAt u ((u 0 13) + (2 : Int32)) w zh9) rfl rfl rfl rfl rfl (by decide) (by decide) rfl rfl ?_
        refine v_iload dX7_is_49 rfl ?_
        refine v_icmp_ne (tgt := 58) dX7_is_51 (by decide) (fun zc10 => ?_) (fun zc10 => ?_)
        · have hd := g_f hd zc10
          refine v_iconst dX7_is_58 ic_0 ?_
          obtain rfl := Option.some.inj hd
          exact v_iretE dX7_is_59 rfl rfl rfl rfl
        · have hd := g_t hd zc10
          refine v_iconst dX7_is_54 ic_1 ?_
          refine v_goto (tgt := 59) dX7_is_55 (by decide) ?_
          obtain rfl := Option.some.inj hd
          exact v_iretE dX7_is_59 rfl rfl rfl rfl
theorem m_M_is (u : (Nat → Nat → Int32)) (a1 : Int32) (a2 : Int32) (a3 : Int32) (a4 : Int32) (w : Nat → Int64) {r : Int32} (hd : d_M_is u a1 a2 a3 a4 = some r) : Mt yX7_is cX7_is 5 (some .boolean) (rm 1) [.ref 0, .int a1, .int a2, .int a3, .int a4] (h_M u w) (ab_eq (some (.int r)) (h_M u w)) := Mt.of (by decide +kernel) (fun _ _ _ => trivial) (Nat.le_of_ble_eq_true rfl) (v_M_is u a1 a2 a3 a4 w hd)

def d_M_ends_50  (u : (Nat → Nat → Int32)) : Option Int32 := some (1 : Int32)
set_option maxRecDepth 100000 in
set_option maxHeartbeats 4000000 in
theorem v_M_ends_50 (w : Nat → Int64) {r : Int32}  (u : (Nat → Nat → Int32)) (hd : d_M_ends_50  u = some r) : Vd RX7 "ends" cX7_ends 4 (some .boolean) (rm 1) (ab_eq (some (.int r)) (h_M u w)) 0 0 0 0 50 [] [] (h_M u w) := by
  unfold d_M_ends_50 at hd
  refine v_iconst dX7_ends_50 ic_1 ?_
  refine v_goto (tgt := 55) dX7_ends_51 (by decide) ?_
  obtain rfl := Option.some.inj hd
  exact v_iretE dX7_ends_55 rfl rfl rfl rfl

def d_M_ends_32  (u : (Nat → Nat → Int32)) (x3 : Int32) : Option Int32 := if x3 = 0 then (d_M_ends_50 u) else ((d_M_byteAt u ((u 0 13) + (5 : Int32))).bind fun zr6 => if zr6 = x3 then (d_M_ends_50 u) else (some (0 : Int32)))
set_option maxRecDepth 100000 in
set_option maxHeartbeats 4000000 in
theorem v_M_ends_32 (w : Nat → Int64) {r : Int32}  (u : (Nat → Nat → Int32)) (x3 : Int32) (hd : d_M_ends_32  u x3 = some r) : Vd RX7 "ends" cX7_ends 4 (some .boolean) (rm 1) (ab_eq (some (.int r)) (h_M u w)) 0 0 0 0 32 [(0, .ref 0), (3, .int x3)] [] (h_M u w) := by
  unfold d_M_ends_32 at hd
  refine v_iload_n dX7_ends_32 rfl ?_
  refine v_if_eq (tgt := 50) dX7_ends_33 (by decide) (fun zc5 => ?_) (fun zc5 => ?_)
  · have hd := g_t hd zc5
    refine v_loc [] rfl ?_
    exact v_M_ends_50 w u hd
  · have hd := g_f hd zc5
    refine v_aload_n dX7_ends_36 rfl ?_
    refine v_aload_n dX7_ends_37 rfl ?_
    refine v_get (v := .int (u 0 13)) dX7_ends_38 fl_X7_82 rfl rfl ?_
    refine v_iconst dX7_ends_41 ic_5 ?_
    refine v_iadd dX7_ends_42 ?_
    obtain ⟨zr6, zh7, hd⟩ := g_bind hd
    refine v_cI (dy := 0) (st := []) (st2 := [.int zr6]) dX7_ends_43 mv_X7_91 (m_M_byteAt u ((u 0 13) + (5 : Int32)) w zh7) rfl rfl rfl rfl rfl (by decide) (by decide) rfl rfl ?_
    refine v_iload_n dX7_ends_46 rfl ?_
    refine v_icmp_ne (tgt := 54) dX7_ends_47 (by decide) (fun zc8 => ?_) (fun zc8 => ?_)
    · have hd := g_f hd zc8
      refine v_iconst dX7_ends_54 ic_0 ?_
      obtain rfl := Option.some.inj hd
      exact v_iretE dX7_ends_55 rfl rfl rfl rfl
    · have hd := g_t hd zc8
      refine v_loc [] rfl ?_
      exact v_M_ends_50 w u hd
def d_M_ends (u : (Nat → Nat → Int32)) (a1 : Int32) (a2 : Int32) (a3 : Int32) : Option Int32 := (d_M_byteAt u ((u 0 13) + (3 : Int32))).bind fun zr1 => if zr1 = a1 then (if a2 = 0 then (d_M_ends_32 u a3) else ((d_M_byteAt u ((u 0 13) + (4 : Int32))).bind fun zr9 => if zr9 = a2 then (d_M_ends_32 u a3) else (some (0 : Int32)))) else (some (0 : Int32))
set_option maxRecDepth 100000 in
set_option maxHeartbeats 4000000 in
theorem v_M_ends (u : (Nat → Nat → Int32)) (a1 : Int32) (a2 : Int32) (a3 : Int32) (w : Nat → Int64) {r : Int32} (hd : d_M_ends u a1 a2 a3 = some r) : Vd RX7 "ends" cX7_ends 4 (some .boolean) (rm 1) (ab_eq (some (.int r)) (h_M u w)) 0 0 0 0 0 [(0, .ref 0), (1, .int a1), (2, .int a2), (3, .int a3)] [] (h_M u w) := by
  unfold d_M_ends at hd
  refine v_aload_n dX7_ends_0 rfl ?_
  refine v_aload_n dX7_ends_1 rfl ?_
  refine v_get (v := .int (u 0 13)) dX7_ends_2 fl_X7_82 rfl rfl ?_
  refine v_iconst dX7_ends_5 ic_3 ?_
  refine v_iadd dX7_ends_6 ?_
  obtain ⟨zr1, zh2, hd⟩ := g_bind hd
  refine v_cI (dy := 0) (st := []) (st2 := [.int zr1]) dX7_ends_7 mv_X7_91 (m_M_byteAt u ((u 0 13) + (3 : Int32)) w zh2) rfl rfl rfl rfl rfl (by decide) (by decide) rfl rfl ?_
  refine v_iload_n dX7_ends_10 rfl ?_
  refine v_icmp_ne (tgt := 54) dX7_ends_11 (by decide) (fun zc3 => ?_) (fun zc3 => ?_)
  · have hd := g_f hd zc3
    refine v_iconst dX7_ends_54 ic_0 ?_
    obtain rfl := Option.some.inj hd
    exact v_iretE dX7_ends_55 rfl rfl rfl rfl
  · have hd := g_t hd zc3
    refine v_iload_n dX7_ends_14 rfl ?_
    refine v_if_eq (tgt := 32) dX7_ends_15 (by decide) (fun zc4 => ?_) (fun zc4 => ?_)
    · have hd := g_t hd zc4
      refine v_loc [0, 3] rfl ?_
      exact v_M_ends_32 w u a3 hd
    · have hd := g_f hd zc4
      refine v_aload_n dX7_ends_18 rfl ?_
      refine v_aload_n dX7_ends_19 rfl ?_
      refine v_get (v := .int (u 0 13)) dX7_ends_20 fl_X7_82 rfl rfl ?_
      refine v_iconst dX7_ends_23 ic_4 ?_
      refine v_iadd dX7_ends_24 ?_
      obtain ⟨zr9, zh10, hd⟩ := g_bind hd
      refine v_cI (dy := 0) (st := []) (st2 := [.int zr9]) dX7_ends_25 mv_X7_91 (m_M_byteAt u ((u 0 13) + (4 : Int32)) w zh10) rfl rfl rfl rfl rfl (by decide) (by decide) rfl rfl ?_
      refine v_iload_n dX7_ends_28 rfl ?_
      refine v_icmp_ne (tgt := 54) dX7_ends_29 (by decide) (fun zc11 => ?_) (fun zc11 => ?_)
      · have hd := g_f hd zc11
        refine v_iconst dX7_ends_54 ic_0 ?_
        obtain rfl := Option.some.inj hd
        exact v_iretE dX7_ends_55 rfl rfl rfl rfl
      · have hd := g_t hd zc11
        refine v_loc [0, 3] rfl ?_
        exact v_M_ends_32 w u a3 hd
theorem m_M_ends (u : (Nat → Nat → Int32)) (a1 : Int32) (a2 : Int32) (a3 : Int32) (w : Nat → Int64) {r : Int32} (hd : d_M_ends u a1 a2 a3 = some r) : Mt yX7_ends cX7_ends 4 (some .boolean) (rm 1) [.ref 0, .int a1, .int a2, .int a3] (h_M u w) (ab_eq (some (.int r)) (h_M u w)) := Mt.of (by decide +kernel) (fun _ _ _ => trivial) (Nat.le_of_ble_eq_true rfl) (v_M_ends u a1 a2 a3 w hd)

def d_M_lineNow_167  (u : (Nat → Nat → Int32)) : Option Int32 := (d_M_is u (5 : Int32) (111 : Int32) (102 : Int32) (102 : Int32)).bind fun zr19 => if zr19 = 0 then (some (-4 : Int32)) else ((d_M_ends u (101 : Int32) (114 : Int32) (0 : Int32)).bind fun zr22 => if zr22 = 0 then (some (-4 : Int32)) else (some (6 : Int32)))
set_option maxRecDepth 100000 in
set_option maxHeartbeats 4000000 in
theorem v_M_lineNow_167 (w : Nat → Int64) {r : Int32}  (u : (Nat → Nat → Int32)) (hd : d_M_lineNow_167  u = some r) : Vd RX7 "lineNow" cX7_lineNow 1 (some .int) (rm 2) (ab_eq (some (.int r)) (h_M u w)) 0 0 0 0 167 [(0, .ref 0)] [] (h_M u w) := by
  unfold d_M_lineNow_167 at hd
  refine v_aload_n dX7_lineNow_167 rfl ?_
  refine v_iconst dX7_lineNow_168 ic_5 ?_
  refine v_bipush dX7_lineNow_169 bp_111 ?_
  refine v_bipush dX7_lineNow_171 bp_102 ?_
  refine v_bipush dX7_lineNow_173 bp_102 ?_
  obtain ⟨zr19, zh20, hd⟩ := g_bind hd
  refine v_cI (dy := 1) (st := []) (st2 := [.int zr19]) dX7_lineNow_175 mv_X7_95 (m_M_is u (5 : Int32) (111 : Int32) (102 : Int32) (102 : Int32) w zh20) rfl rfl rfl rfl rfl (by decide) (by decide) rfl rfl ?_
  refine v_if_eq (tgt := 198) dX7_lineNow_178 (by decide) (fun zc21 => ?_) (fun zc21 => ?_)
  · have hd := g_t hd zc21
    refine v_bipush dX7_lineNow_198 bp_m4 ?_
    obtain rfl := Option.some.inj hd
    exact v_iretE dX7_lineNow_200 rfl rfl rfl rfl
  · have hd := g_f hd zc21
    refine v_aload_n dX7_lineNow_181 rfl ?_
    refine v_bipush dX7_lineNow_182 bp_101 ?_
    refine v_bipush dX7_lineNow_184 bp_114 ?_
    refine v_iconst dX7_lineNow_186 ic_0 ?_
    obtain ⟨zr22, zh23, hd⟩ := g_bind hd
    refine v_cI (dy := 1) (st := []) (st2 := [.int zr22]) dX7_lineNow_187 mv_X7_99 (m_M_ends u (101 : Int32) (114 : Int32) (0 : Int32) w zh23) rfl rfl rfl rfl rfl (by decide) (by decide) rfl rfl ?_
    refine v_if_eq (tgt := 198) dX7_lineNow_190 (by decide) (fun zc24 => ?_) (fun zc24 => ?_)
    · have hd := g_t hd zc24
      refine v_bipush dX7_lineNow_198 bp_m4 ?_
      obtain rfl := Option.some.inj hd
      exact v_iretE dX7_lineNow_200 rfl rfl rfl rfl
    · have hd := g_f hd zc24
      refine v_bipush dX7_lineNow_193 bp_6 ?_
      refine v_goto (tgt := 200) dX7_lineNow_195 (by decide) ?_
      obtain rfl := Option.some.inj hd
      exact v_iretE dX7_lineNow_200 rfl rfl rfl rfl

def d_M_lineNow_138  (u : (Nat → Nat → Int32)) : Option Int32 := (d_M_is u (4 : Int32) (114 : Int32) (97 : Int32) (105 : Int32)).bind fun zr16 => if zr16 = 0 then (d_M_lineNow_167 u) else ((d_M_ends u (110 : Int32) (0 : Int32) (0 : Int32)).bind fun zr25 => if zr25 = 0 then (d_M_lineNow_167 u) else (some (5 : Int32)))
set_option maxRecDepth 100000 in
set_option maxHeartbeats 4000000 in
theorem v_M_lineNow_138 (w : Nat → Int64) {r : Int32}  (u : (Nat → Nat → Int32)) (hd : d_M_lineNow_138  u = some r) : Vd RX7 "lineNow" cX7_lineNow 1 (some .int) (rm 2) (ab_eq (some (.int r)) (h_M u w)) 0 0 0 0 138 [(0, .ref 0)] [] (h_M u w) := by
  unfold d_M_lineNow_138 at hd
  refine v_aload_n dX7_lineNow_138 rfl ?_
  refine v_iconst dX7_lineNow_139 ic_4 ?_
  refine v_bipush dX7_lineNow_140 bp_114 ?_
  refine v_bipush dX7_lineNow_142 bp_97 ?_
  refine v_bipush dX7_lineNow_144 bp_105 ?_
  obtain ⟨zr16, zh17, hd⟩ := g_bind hd
  refine v_cI (dy := 1) (st := []) (st2 := [.int zr16]) dX7_lineNow_146 mv_X7_95 (m_M_is u (4 : Int32) (114 : Int32) (97 : Int32) (105 : Int32) w zh17) rfl rfl rfl rfl rfl (by decide) (by decide) rfl rfl ?_
  refine v_if_eq (tgt := 167) dX7_lineNow_149 (by decide) (fun zc18 => ?_) (fun zc18 => ?_)
  · have hd := g_t hd zc18
    exact v_M_lineNow_167 w u hd
  · have hd := g_f hd zc18
    refine v_aload_n dX7_lineNow_152 rfl ?_
    refine v_bipush dX7_lineNow_153 bp_110 ?_
    refine v_iconst dX7_lineNow_155 ic_0 ?_
    refine v_iconst dX7_lineNow_156 ic_0 ?_
    obtain ⟨zr25, zh26, hd⟩ := g_bind hd
    refine v_cI (dy := 1) (st := []) (st2 := [.int zr25]) dX7_lineNow_157 mv_X7_99 (m_M_ends u (110 : Int32) (0 : Int32) (0 : Int32) w zh26) rfl rfl rfl rfl rfl (by decide) (by decide) rfl rfl ?_
    refine v_if_eq (tgt := 167) dX7_lineNow_160 (by decide) (fun zc27 => ?_) (fun zc27 => ?_)
    · have hd := g_t hd zc27
      exact v_M_lineNow_167 w u hd
    · have hd := g_f hd zc27
      refine v_iconst dX7_lineNow_163 ic_5 ?_
      refine v_goto (tgt := 200) dX7_lineNow_164 (by decide) ?_
      obtain rfl := Option.some.inj hd
      exact v_iretE dX7_lineNow_200 rfl rfl rfl rfl

def d_M_lineNow_111  (u : (Nat → Nat → Int32)) : Option Int32 := (d_M_is u (4 : Int32) (102 : Int32) (105 : Int32) (114 : Int32)).bind fun zr13 => if zr13 = 0 then (d_M_lineNow_138 u) else ((d_M_ends u (101 : Int32) (0 : Int32) (0 : Int32)).bind fun zr28 => if zr28 = 0 then (d_M_lineNow_138 u) else (some (4 : Int32)))
set_option maxRecDepth 100000 in
set_option maxHeartbeats 4000000 in
theorem v_M_lineNow_111 (w : Nat → Int64) {r : Int32}  (u : (Nat → Nat → Int32)) (hd : d_M_lineNow_111  u = some r) : Vd RX7 "lineNow" cX7_lineNow 1 (some .int) (rm 2) (ab_eq (some (.int r)) (h_M u w)) 0 0 0 0 111 [(0, .ref 0)] [] (h_M u w) := by
  unfold d_M_lineNow_111 at hd
  refine v_aload_n dX7_lineNow_111 rfl ?_
  refine v_iconst dX7_lineNow_112 ic_4 ?_
  refine v_bipush dX7_lineNow_113 bp_102 ?_
  refine v_bipush dX7_lineNow_115 bp_105 ?_
  refine v_bipush dX7_lineNow_117 bp_114 ?_
  obtain ⟨zr13, zh14, hd⟩ := g_bind hd
  refine v_cI (dy := 1) (st := []) (st2 := [.int zr13]) dX7_lineNow_119 mv_X7_95 (m_M_is u (4 : Int32) (102 : Int32) (105 : Int32) (114 : Int32) w zh14) rfl rfl rfl rfl rfl (by decide) (by decide) rfl rfl ?_
  refine v_if_eq (tgt := 138) dX7_lineNow_122 (by decide) (fun zc15 => ?_) (fun zc15 => ?_)
  · have hd := g_t hd zc15
    exact v_M_lineNow_138 w u hd
  · have hd := g_f hd zc15
    refine v_aload_n dX7_lineNow_125 rfl ?_
    refine v_bipush dX7_lineNow_126 bp_101 ?_
    refine v_iconst dX7_lineNow_128 ic_0 ?_
    refine v_iconst dX7_lineNow_129 ic_0 ?_
    obtain ⟨zr28, zh29, hd⟩ := g_bind hd
    refine v_cI (dy := 1) (st := []) (st2 := [.int zr28]) dX7_lineNow_130 mv_X7_99 (m_M_ends u (101 : Int32) (0 : Int32) (0 : Int32) w zh29) rfl rfl rfl rfl rfl (by decide) (by decide) rfl rfl ?_
    refine v_if_eq (tgt := 138) dX7_lineNow_133 (by decide) (fun zc30 => ?_) (fun zc30 => ?_)
    · have hd := g_t hd zc30
      exact v_M_lineNow_138 w u hd
    · have hd := g_f hd zc30
      refine v_iconst dX7_lineNow_136 ic_4 ?_
      obtain rfl := Option.some.inj hd
      exact v_iretE dX7_lineNow_137 rfl rfl rfl rfl

def d_M_lineNow_84  (u : (Nat → Nat → Int32)) : Option Int32 := (d_M_is u (4 : Int32) (99 : Int32) (111 : Int32) (111 : Int32)).bind fun zr10 => if zr10 = 0 then (d_M_lineNow_111 u) else ((d_M_ends u (107 : Int32) (0 : Int32) (0 : Int32)).bind fun zr31 => if zr31 = 0 then (d_M_lineNow_111 u) else (some (3 : Int32)))
set_option maxRecDepth 100000 in
set_option maxHeartbeats 4000000 in
theorem v_M_lineNow_84 (w : Nat → Int64) {r : Int32}  (u : (Nat → Nat → Int32)) (hd : d_M_lineNow_84  u = some r) : Vd RX7 "lineNow" cX7_lineNow 1 (some .int) (rm 2) (ab_eq (some (.int r)) (h_M u w)) 0 0 0 0 84 [(0, .ref 0)] [] (h_M u w) := by
  unfold d_M_lineNow_84 at hd
  refine v_aload_n dX7_lineNow_84 rfl ?_
  refine v_iconst dX7_lineNow_85 ic_4 ?_
  refine v_bipush dX7_lineNow_86 bp_99 ?_
  refine v_bipush dX7_lineNow_88 bp_111 ?_
  refine v_bipush dX7_lineNow_90 bp_111 ?_
  obtain ⟨zr10, zh11, hd⟩ := g_bind hd
  refine v_cI (dy := 1) (st := []) (st2 := [.int zr10]) dX7_lineNow_92 mv_X7_95 (m_M_is u (4 : Int32) (99 : Int32) (111 : Int32) (111 : Int32) w zh11) rfl rfl rfl rfl rfl (by decide) (by decide) rfl rfl ?_
  refine v_if_eq (tgt := 111) dX7_lineNow_95 (by decide) (fun zc12 => ?_) (fun zc12 => ?_)
  · have hd := g_t hd zc12
    exact v_M_lineNow_111 w u hd
  · have hd := g_f hd zc12
    refine v_aload_n dX7_lineNow_98 rfl ?_
    refine v_bipush dX7_lineNow_99 bp_107 ?_
    refine v_iconst dX7_lineNow_101 ic_0 ?_
    refine v_iconst dX7_lineNow_102 ic_0 ?_
    obtain ⟨zr31, zh32, hd⟩ := g_bind hd
    refine v_cI (dy := 1) (st := []) (st2 := [.int zr31]) dX7_lineNow_103 mv_X7_99 (m_M_ends u (107 : Int32) (0 : Int32) (0 : Int32) w zh32) rfl rfl rfl rfl rfl (by decide) (by decide) rfl rfl ?_
    refine v_if_eq (tgt := 111) dX7_lineNow_106 (by decide) (fun zc33 => ?_) (fun zc33 => ?_)
    · have hd := g_t hd zc33
      exact v_M_lineNow_111 w u hd
    · have hd := g_f hd zc33
      refine v_iconst dX7_lineNow_109 ic_3 ?_
      obtain rfl := Option.some.inj hd
      exact v_iretE dX7_lineNow_110 rfl rfl rfl rfl

def d_M_lineNow_57  (u : (Nat → Nat → Int32)) : Option Int32 := (d_M_is u (4 : Int32) (100 : Int32) (101 : Int32) (97 : Int32)).bind fun zr7 => if zr7 = 0 then (d_M_lineNow_84 u) else ((d_M_ends u (102 : Int32) (0 : Int32) (0 : Int32)).bind fun zr34 => if zr34 = 0 then (d_M_lineNow_84 u) else (some (2 : Int32)))
set_option maxRecDepth 100000 in
set_option maxHeartbeats 4000000 in
theorem v_M_lineNow_57 (w : Nat → Int64) {r : Int32}  (u : (Nat → Nat → Int32)) (hd : d_M_lineNow_57  u = some r) : Vd RX7 "lineNow" cX7_lineNow 1 (some .int) (rm 2) (ab_eq (some (.int r)) (h_M u w)) 0 0 0 0 57 [(0, .ref 0)] [] (h_M u w) := by
  unfold d_M_lineNow_57 at hd
  refine v_aload_n dX7_lineNow_57 rfl ?_
  refine v_iconst dX7_lineNow_58 ic_4 ?_
  refine v_bipush dX7_lineNow_59 bp_100 ?_
  refine v_bipush dX7_lineNow_61 bp_101 ?_
  refine v_bipush dX7_lineNow_63 bp_97 ?_
  obtain ⟨zr7, zh8, hd⟩ := g_bind hd
  refine v_cI (dy := 1) (st := []) (st2 := [.int zr7]) dX7_lineNow_65 mv_X7_95 (m_M_is u (4 : Int32) (100 : Int32) (101 : Int32) (97 : Int32) w zh8) rfl rfl rfl rfl rfl (by decide) (by decide) rfl rfl ?_
  refine v_if_eq (tgt := 84) dX7_lineNow_68 (by decide) (fun zc9 => ?_) (fun zc9 => ?_)
  · have hd := g_t hd zc9
    exact v_M_lineNow_84 w u hd
  · have hd := g_f hd zc9
    refine v_aload_n dX7_lineNow_71 rfl ?_
    refine v_bipush dX7_lineNow_72 bp_102 ?_
    refine v_iconst dX7_lineNow_74 ic_0 ?_
    refine v_iconst dX7_lineNow_75 ic_0 ?_
    obtain ⟨zr34, zh35, hd⟩ := g_bind hd
    refine v_cI (dy := 1) (st := []) (st2 := [.int zr34]) dX7_lineNow_76 mv_X7_99 (m_M_ends u (102 : Int32) (0 : Int32) (0 : Int32) w zh35) rfl rfl rfl rfl rfl (by decide) (by decide) rfl rfl ?_
    refine v_if_eq (tgt := 84) dX7_lineNow_79 (by decide) (fun zc36 => ?_) (fun zc36 => ?_)
    · have hd := g_t hd zc36
      exact v_M_lineNow_84 w u hd
    · have hd := g_f hd zc36
      refine v_iconst dX7_lineNow_82 ic_2 ?_
      obtain rfl := Option.some.inj hd
      exact v_iretE dX7_lineNow_83 rfl rfl rfl rfl

def d_M_lineNow_30  (u : (Nat → Nat → Int32)) : Option Int32 := (d_M_is u (4 : Int32) (114 : Int32) (117 : Int32) (100 : Int32)).bind fun zr4 => if zr4 = 0 then (d_M_lineNow_57 u) else ((d_M_ends u (101 : Int32) (0 : Int32) (0 : Int32)).bind fun zr37 => if zr37 = 0 then (d_M_lineNow_57 u) else (some (1 : Int32)))
set_option maxRecDepth 100000 in
set_option maxHeartbeats 4000000 in
theorem v_M_lineNow_30 (w : Nat → Int64) {r : Int32}  (u : (Nat → Nat → Int32)) (hd : d_M_lineNow_30  u = some r) : Vd RX7 "lineNow" cX7_lineNow 1 (some .int) (rm 2) (ab_eq (some (.int r)) (h_M u w)) 0 0 0 0 30 [(0, .ref 0)] [] (h_M u w) := by
  unfold d_M_lineNow_30 at hd
  refine v_aload_n dX7_lineNow_30 rfl ?_
  refine v_iconst dX7_lineNow_31 ic_4 ?_
  refine v_bipush dX7_lineNow_32 bp_114 ?_
  refine v_bipush dX7_lineNow_34 bp_117 ?_
  refine v_bipush dX7_lineNow_36 bp_100 ?_
  obtain ⟨zr4, zh5, hd⟩ := g_bind hd
  refine v_cI (dy := 1) (st := []) (st2 := [.int zr4]) dX7_lineNow_38 mv_X7_95 (m_M_is u (4 : Int32) (114 : Int32) (117 : Int32) (100 : Int32) w zh5) rfl rfl rfl rfl rfl (by decide) (by decide) rfl rfl ?_
  refine v_if_eq (tgt := 57) dX7_lineNow_41 (by decide) (fun zc6 => ?_) (fun zc6 => ?_)
  · have hd := g_t hd zc6
    exact v_M_lineNow_57 w u hd
  · have hd := g_f hd zc6
    refine v_aload_n dX7_lineNow_44 rfl ?_
    refine v_bipush dX7_lineNow_45 bp_101 ?_
    refine v_iconst dX7_lineNow_47 ic_0 ?_
    refine v_iconst dX7_lineNow_48 ic_0 ?_
    obtain ⟨zr37, zh38, hd⟩ := g_bind hd
    refine v_cI (dy := 1) (st := []) (st2 := [.int zr37]) dX7_lineNow_49 mv_X7_99 (m_M_ends u (101 : Int32) (0 : Int32) (0 : Int32) w zh38) rfl rfl rfl rfl rfl (by decide) (by decide) rfl rfl ?_
    refine v_if_eq (tgt := 57) dX7_lineNow_52 (by decide) (fun zc39 => ?_) (fun zc39 => ?_)
    · have hd := g_t hd zc39
      exact v_M_lineNow_57 w u hd
    · have hd := g_f hd zc39
      refine v_iconst dX7_lineNow_55 ic_1 ?_
      obtain rfl := Option.some.inj hd
      exact v_iretE dX7_lineNow_56 rfl rfl rfl rfl
def d_M_lineNow (u : (Nat → Nat → Int32)) : Option Int32 := (d_M_is u (6 : Int32) (112 : Int32) (111 : Int32) (108 : Int32)).bind fun zr1 => if zr1 = 0 then (d_M_lineNow_30 u) else ((d_M_ends u (105 : Int32) (116 : Int32) (101 : Int32)).bind fun zr40 => if zr40 = 0 then (d_M_lineNow_30 u) else (some (0 : Int32)))
set_option maxRecDepth 100000 in
set_option maxHeartbeats 4000000 in
theorem v_M_lineNow (u : (Nat → Nat → Int32)) (w : Nat → Int64) {r : Int32} (hd : d_M_lineNow u = some r) : Vd RX7 "lineNow" cX7_lineNow 1 (some .int) (rm 2) (ab_eq (some (.int r)) (h_M u w)) 0 0 0 0 0 [(0, .ref 0)] [] (h_M u w) := by
  unfold d_M_lineNow at hd
  refine v_aload_n dX7_lineNow_0 rfl ?_
  refine v_bipush dX7_lineNow_1 bp_6 ?_
  refine v_bipush dX7_lineNow_3 bp_112 ?_
  refine v_bipush dX7_lineNow_5 bp_111 ?_
  refine v_bipush dX7_lineNow_7 bp_108 ?_
  obtain ⟨zr1, zh2, hd⟩ := g_bind hd
  refine v_cI (dy := 1) (st := []) (st2 := [.int zr1]) dX7_lineNow_9 mv_X7_95 (m_M_is u (6 : Int32) (112 : Int32) (111 : Int32) (108 : Int32) w zh2) rfl rfl rfl rfl rfl (by decide) (by decide) rfl rfl ?_
  refine v_if_eq (tgt := 30) dX7_lineNow_12 (by decide) (fun zc3 => ?_) (fun zc3 => ?_)
  · have hd := g_t hd zc3
    exact v_M_lineNow_30 w u hd
  · have hd := g_f hd zc3
    refine v_aload_n dX7_lineNow_15 rfl ?_
    refine v_bipush dX7_lineNow_16 bp_105 ?_
    refine v_bipush dX7_lineNow_18 bp_116 ?_
    refine v_bipush dX7_lineNow_20 bp_101 ?_
    obtain ⟨zr40, zh41, hd⟩ := g_bind hd
    refine v_cI (dy := 1) (st := []) (st2 := [.int zr40]) dX7_lineNow_22 mv_X7_99 (m_M_ends u (105 : Int32) (116 : Int32) (101 : Int32) w zh41) rfl rfl rfl rfl rfl (by decide) (by decide) rfl rfl ?_
    refine v_if_eq (tgt := 30) dX7_lineNow_25 (by decide) (fun zc42 => ?_) (fun zc42 => ?_)
    · have hd := g_t hd zc42
      exact v_M_lineNow_30 w u hd
    · have hd := g_f hd zc42
      refine v_iconst dX7_lineNow_28 ic_0 ?_
      obtain rfl := Option.some.inj hd
      exact v_iretE dX7_lineNow_29 rfl rfl rfl rfl
theorem m_M_lineNow (u : (Nat → Nat → Int32)) (w : Nat → Int64) {r : Int32} (hd : d_M_lineNow u = some r) : Mt yX7_lineNow cX7_lineNow 1 (some .int) (rm 2) [.ref 0] (h_M u w) (ab_eq (some (.int r)) (h_M u w)) := Mt.of (by decide +kernel) (fun _ _ _ => trivial) (Nat.le_of_ble_eq_true rfl) (v_M_lineNow u w hd)

def d_M_next_260  (u : (Nat → Nat → Int32)) (s1 : Int32) : Option ((Nat → Nat → Int32)) := (d_M_needs u s1 (1 : Int32)).bind fun zr17 => dl ((zr17 0 12) + (1 : Int32)) fun zy19 => some (pw zr17 0 12 zy19)
set_option maxRecDepth 100000 in
set_option maxHeartbeats 4000000 in
theorem v_M_next_260 (w : Nat → Int64) {r : (Nat → Nat → Int32)}  (u : (Nat → Nat → Int32)) (s1 : Int32) (hd : d_M_next_260  u s1 = some r) : Vd RX7 "next" cX7_next 2 none (rm 1) (ab_eq none (h_M r w)) 0 0 0 0 260 [(0, .ref 0)] [.int s1, .ref 0] (h_M u w) := by
  unfold d_M_next_260 at hd
  refine v_iconst dX7_next_260 ic_1 ?_
  obtain ⟨zr17, zh18, hd⟩ := g_bind hd
  refine v_cI (dy := 0) (st := []) (st2 := []) dX7_next_261 mv_X7_117 (m_M_needs u s1 (1 : Int32) w zh18) rfl rfl rfl rfl rfl (by decide) (by decide) rfl rfl ?_
  refine v_aload_n dX7_next_264 rfl ?_
  refine v_dup dX7_next_265 rfl ?_
  refine v_get (v := .int (zr17 0 12)) dX7_next_266 fl_X7_88 rfl rfl ?_
  refine v_iconst dX7_next_269 ic_1 ?_
  refine v_iadd dX7_next_270 ?_
  refine v_topi (fun zy19 ze20 => ?_)
  have hd := dl_n hd zy19 ze20
  refine v_pti (h2 := (h_M (pw zr17 0 12 zy19) w)) dX7_next_271 fl_X7_88 rfl (Nat.le_of_ble_eq_true rfl) rfl ?_
  obtain rfl := Option.some.inj hd
  exact v_vretE dX7_next_274 rfl rfl rfl

def d_M_next_236  (u : (Nat → Nat → Int32)) (s1 : Int32) : Option ((Nat → Nat → Int32)) := (d_M_needs u s1 (1 : Int32)).bind fun zr27 => some zr27
set_option maxRecDepth 100000 in
set_option maxHeartbeats 4000000 in
theorem v_M_next_236 (w : Nat → Int64) {r : (Nat → Nat → Int32)}  (u : (Nat → Nat → Int32)) (s1 : Int32) (hd : d_M_next_236  u s1 = some r) : Vd RX7 "next" cX7_next 2 none (rm 1) (ab_eq none (h_M r w)) 0 0 0 0 236 [] [.int s1, .ref 0] (h_M u w) := by
  unfold d_M_next_236 at hd
  refine v_iconst dX7_next_236 ic_1 ?_
  obtain ⟨zr27, zh28, hd⟩ := g_bind hd
  refine v_cI (dy := 0) (st := []) (st2 := []) dX7_next_237 mv_X7_117 (m_M_needs u s1 (1 : Int32) w zh28) rfl rfl rfl rfl rfl (by decide) (by decide) rfl rfl ?_
  refine v_goto (tgt := 274) dX7_next_240 (by decide) ?_
  obtain rfl := Option.some.inj hd
  exact v_vretE dX7_next_274 rfl rfl rfl

def d_M_next_201 (k140 : (Nat → Nat → Int32) → Option ((Nat → Nat → Int32))) (u : (Nat → Nat → Int32)) (s1 : Int32) : Option ((Nat → Nat → Int32)) := dl ((u 0 12) + (1 : Int32)) fun zy30 => k140 (pw (pw u 0 15 s1) 0 12 zy30)
set_option maxRecDepth 100000 in
set_option maxHeartbeats 4000000 in
theorem v_M_next_201 (w : Nat → Int64) {r : (Nat → Nat → Int32)} (k140 : (Nat → Nat → Int32) → Option ((Nat → Nat → Int32))) (hk140 : ∀ (u : (Nat → Nat → Int32)), k140 u = some r → Vd RX7 "next" cX7_next 2 none (rm 1) (ab_eq none (h_M r w)) 0 0 0 0 140 [(0, .ref 0)] [] (h_M u w)) (u : (Nat → Nat → Int32)) (s1 : Int32) (hd : d_M_next_201 k140 u s1 = some r) : Vd RX7 "next" cX7_next 2 none (rm 1) (ab_eq none (h_M r w)) 0 0 0 0 201 [(0, .ref 0)] [.int s1, .ref 0] (h_M u w) := by
  unfold d_M_next_201 at hd
  refine v_pti (h2 := (h_M (pw u 0 15 s1) w)) dX7_next_201 fl_X7_114 rfl (Nat.le_of_ble_eq_true rfl) rfl ?_
  refine v_aload_n dX7_next_204 rfl ?_
  refine v_dup dX7_next_205 rfl ?_
  refine v_get (v := .int (u 0 12)) dX7_next_206 fl_X7_88 rfl rfl ?_
  refine v_iconst dX7_next_209 ic_1 ?_
  refine v_iadd dX7_next_210 ?_
  refine v_topi (fun zy30 ze31 => ?_)
  have hd := dl_n hd zy30 ze31
  refine v_pti (h2 := (h_M (pw (pw u 0 15 s1) 0 12 zy30) w)) dX7_next_211 fl_X7_88 rfl (Nat.le_of_ble_eq_true rfl) rfl ?_
  refine v_goto (tgt := 140) dX7_next_214 (by decide) ?_
  exact hk140 (pw (pw u 0 15 s1) 0 12 zy30) hd

def d_M_next_140  : Nat → (Nat → Nat → Int32) → Option ((Nat → Nat → Int32))
  | 0, _ => none
  | f + 1, u => (d_M_byteAt u (u 0 12)).bind fun zr21 => (d_P_in zr21.toInt64 (48 : Int64) (57 : Int64)).bind fun zr23 => if zr23 = 0 then (if (2 : Int32) < ((u 0 12) - (u 0 13)) then (d_M_next_236 u (0 : Int32)) else (d_M_next_236 u (1 : Int32))) else (if (2 : Int32) ≤ ((u 0 12) - (u 0 13)) then (d_M_next_201 (d_M_next_140 f) u (u 0 15)) else ((d_M_byteAt u (u 0 12)).bind fun zr32 => d_M_next_201 (d_M_next_140 f) u ((((10 : Int32) * (u 0 15)) + zr32) - (48 : Int32))))
set_option maxRecDepth 100000 in
set_option maxHeartbeats 4000000 in
theorem v_M_next_140 (w : Nat → Int64) {r : (Nat → Nat → Int32)}  : ∀ (f : Nat) (u : (Nat → Nat → Int32)), d_M_next_140  f u = some r → Vd RX7 "next" cX7_next 2 none (rm 1) (ab_eq none (h_M r w)) 0 0 0 0 140 [(0, .ref 0)] [] (h_M u w) := by
  intro f
  induction f with
  | zero =>
    intro u hd
    rw [d_M_next_140] at hd
    cases hd
  | succ f ih =>
    intro u hd
    rw [d_M_next_140] at hd
    refine v_aload_n dX7_next_140 rfl ?_
    refine v_aload_n dX7_next_141 rfl ?_
    refine v_get (v := .int (u 0 12)) dX7_next_142 fl_X7_88 rfl rfl ?_
    obtain ⟨zr21, zh22, hd⟩ := g_bind hd
    refine v_cI (dy := 0) (st := []) (st2 := [.int zr21]) dX7_next_145 mv_X7_91 (m_M_byteAt u (u 0 12) w zh22) rfl rfl rfl rfl rfl (by decide) (by decide) rfl rfl ?_
    refine v_i2l dX7_next_148 ?_
    refine v_ldc2 dX7_next_149 kc_X7_110 ?_
    refine v_ldc2 dX7_next_152 kc_X7_112 ?_
    obtain ⟨zr23, zh24, hd⟩ := g_bind hd
    refine v_cS (dy := 0) (st := []) (st2 := [.int zr23]) (h2 := (h_M u w)) [] dX7_next_155 mz_X7_72 (m_P_in zr21.toInt64 (48 : Int64) (57 : Int64) zh24) rfl rfl rfl rfl rfl rfl (by decide) (by decide) rfl rfl rfl ?_
    refine v_if_eq (tgt := 217) dX7_next_158 (by decide) (fun zc25 => ?_) (fun zc25 => ?_)
    · have hd := g_t hd zc25
      refine v_aload_n dX7_next_217 rfl ?_
      refine v_aload_n dX7_next_218 rfl ?_
      refine v_get (v := .int (u 0 12)) dX7_next_219 fl_X7_88 rfl rfl ?_
      refine v_aload_n dX7_next_222 rfl ?_
      refine v_get (v := .int (u 0 13)) dX7_next_223 fl_X7_82 rfl rfl ?_
      refine v_isub dX7_next_226 ?_
      refine v_iconst dX7_next_227 ic_2 ?_
      refine v_icmp_gt (tgt := 235) dX7_next_228 (by decide) (fun zc26 => ?_) (fun zc26 => ?_)
      · have hd := g_t hd zc26
        refine v_iconst dX7_next_235 ic_0 ?_
        refine v_loc [] rfl ?_
        exact v_M_next_236 w u (0 : Int32) hd
      · have hd := g_f hd zc26
        refine v_iconst dX7_next_231 ic_1 ?_
        refine v_goto (tgt := 236) dX7_next_232 (by decide) ?_
        refine v_loc [] rfl ?_
        exact v_M_next_236 w u (1 : Int32) hd
    · have hd := g_f hd zc25
      refine v_aload_n dX7_next_161 rfl ?_
      refine v_aload_n dX7_next_162 rfl ?_
      refine v_get (v := .int (u 0 12)) dX7_next_163 fl_X7_88 rfl rfl ?_
      refine v_aload_n dX7_next_166 rfl ?_
      refine v_get (v := .int (u 0 13)) dX7_next_167 fl_X7_82 rfl rfl ?_
      refine v_isub dX7_next_170 ?_
      refine v_iconst dX7_next_171 ic_2 ?_
      refine v_icmp_ge (tgt := 197) dX7_next_172 (by decide) (fun zc29 => ?_) (fun zc29 => ?_)
      · have hd := g_t hd zc29
        refine v_aload_n dX7_next_197 rfl ?_
        refine v_get (v := .int (u 0 15)) dX7_next_198 fl_X7_114 rfl rfl ?_
        exact v_M_next_201 w (d_M_next_140 f) (ih) u (u 0 15) hd
      · have hd := g_f hd zc29
        refine v_bipush dX7_next_175 bp_10 ?_
        refine v_aload_n dX7_next_177 rfl ?_
        refine v_get (v := .int (u 0 15)) dX7_next_178 fl_X7_114 rfl rfl ?_
        refine v_imul dX7_next_181 ?_
        refine v_aload_n dX7_next_182 rfl ?_
        refine v_aload_n dX7_next_183 rfl ?_
        refine v_get (v := .int (u 0 12)) dX7_next_184 fl_X7_88 rfl rfl ?_
        obtain ⟨zr32, zh33, hd⟩ := g_bind hd
        refine v_cI (dy := 0) (st := [.int ((10 : Int32) * (u 0 15)), .ref 0]) (st2 := [.int zr32, .int ((10 : Int32) * (u 0 15)), .ref 0]) dX7_next_187 mv_X7_91 (m_M_byteAt u (u 0 12) w zh33) rfl rfl rfl rfl rfl (by decide) (by decide) rfl rfl ?_
        refine v_iadd dX7_next_190 ?_
        refine v_bipush dX7_next_191 bp_48 ?_
        refine v_isub dX7_next_193 ?_
        refine v_goto (tgt := 201) dX7_next_194 (by decide) ?_
        exact v_M_next_201 w (d_M_next_140 f) (ih) u ((((10 : Int32) * (u 0 15)) + zr32) - (48 : Int32)) hd

def d_M_next_82  : Nat → (Nat → Nat → Int32) → Option ((Nat → Nat → Int32))
  | 0, _ => none
  | f + 1, u => (d_M_byteAt u (u 0 12)).bind fun zr34 => (d_P_in zr34.toInt64 (97 : Int64) (122 : Int64)).bind fun zr36 => if zr36 = 0 then (some u) else (dl ((u 0 12) + (1 : Int32)) fun zy39 => d_M_next_82 f (pw u 0 12 zy39))
set_option maxRecDepth 100000 in
set_option maxHeartbeats 4000000 in
theorem v_M_next_82 (w : Nat → Int64) {r : (Nat → Nat → Int32)}  : ∀ (f : Nat) (u : (Nat → Nat → Int32)), d_M_next_82  f u = some r → Vd RX7 "next" cX7_next 2 none (rm 1) (ab_eq none (h_M r w)) 0 0 0 0 82 [(0, .ref 0)] [] (h_M u w) := by
  intro f
  induction f with
  | zero =>
    intro u hd
    rw [d_M_next_82] at hd
    cases hd
  | succ f ih =>
    intro u hd
    rw [d_M_next_82] at hd
    refine v_aload_n dX7_next_82 rfl ?_
    refine v_aload_n dX7_next_83 rfl ?_
    refine v_get (v := .int (u 0 12)) dX7_next_84 fl_X7_88 rfl rfl ?_
    obtain ⟨zr34, zh35, hd⟩ := g_bind hd
    refine v_cI (dy := 0) (st := []) (st2 := [.int zr34]) dX7_next_87 mv_X7_91 (m_M_byteAt u (u 0 12) w zh35) rfl rfl rfl rfl rfl (by decide) (by decide) rfl rfl ?_
    refine v_i2l dX7_next_90 ?_
    refine v_ldc2 dX7_next_91 kc_X7_106 ?_
    refine v_ldc2 dX7_next_94 kc_X7_108 ?_
    obtain ⟨zr36, zh37, hd⟩ := g_bind hd
    refine v_cS (dy := 0) (st := []) (st2 := [.int zr36]) (h2 := (h_M u w)) [] dX7_next_97 mz_X7_72 (m_P_in zr34.toInt64 (97 : Int64) (122 : Int64) zh37) rfl rfl rfl rfl rfl rfl (by decide) (by decide) rfl rfl rfl ?_
    refine v_if_eq (tgt := 274) dX7_next_100 (by decide) (fun zc38 => ?_) (fun zc38 => ?_)
    · have hd := g_t hd zc38
      obtain rfl := Option.some.inj hd
      exact v_vretE dX7_next_274 rfl rfl rfl
    · have hd := g_f hd zc38
      refine v_aload_n dX7_next_103 rfl ?_
      refine v_dup dX7_next_104 rfl ?_
      refine v_get (v := .int (u 0 12)) dX7_next_105 fl_X7_88 rfl rfl ?_
      refine v_iconst dX7_next_108 ic_1 ?_
      refine v_iadd dX7_next_109 ?_
      refine v_topi (fun zy39 ze40 => ?_)
      have hd := dl_n hd zy39 ze40
      refine v_pti (h2 := (h_M (pw u 0 12 zy39) w)) dX7_next_110 fl_X7_88 rfl (Nat.le_of_ble_eq_true rfl) rfl ?_
      refine v_goto (tgt := 82) dX7_next_113 (by decide) ?_
      exact ih (pw u 0 12 zy39) hd

def d_M_next_8  : Nat → (Nat → Nat → Int32) → Option ((Nat → Nat → Int32))
  | 0, _ => none
  | f + 1, u => (d_M_byteAt u (u 0 12)).bind fun zr2 => if zr2 = (32 : Int32) then (dl ((u 0 12) + (1 : Int32)) fun zy41 => d_M_next_8 f (pw u 0 12 zy41)) else (dl (u 0 12) fun zy5 => (d_M_byteAt (pw u 0 13 zy5) (u 0 12)).bind fun zr7 => if 0 ≤ zr7 then ((d_P_in zr7.toInt64 (97 : Int64) (122 : Int64)).bind fun zr10 => if zr10 = 0 then ((d_P_in zr7.toInt64 (48 : Int64) (57 : Int64)).bind fun zr13 => if zr13 = 0 then (if zr7 = (59 : Int32) then (d_M_next_260 (pw (pw u 0 13 zy5) 0 14 (3 : Int32)) (1 : Int32)) else (d_M_next_260 (pw (pw u 0 13 zy5) 0 14 (3 : Int32)) (0 : Int32))) else (d_M_next_140 FU (pw (pw (pw u 0 13 zy5) 0 14 (2 : Int32)) 0 15 (0 : Int32)))) else (d_M_next_82 FU (pw (pw u 0 13 zy5) 0 14 (1 : Int32)))) else (some (pw (pw u 0 13 zy5) 0 14 (0 : Int32))))
set_option maxRecDepth 100000 in
set_option maxHeartbeats 4000000 in
theorem v_M_next_8 (w : Nat → Int64) {r : (Nat → Nat → Int32)}  : ∀ (f : Nat) (u : (Nat → Nat → Int32)), d_M_next_8  f u = some r → Vd RX7 "next" cX7_next 2 none (rm 1) (ab_eq none (h_M r w)) 0 0 0 0 8 [(0, .ref 0)] [] (h_M u w) := by
  intro f
  induction f with
  | zero =>
    intro u hd
    rw [d_M_next_8] at hd
    cases hd
  | succ f ih =>
    intro u hd
    rw [d_M_next_8] at hd
    refine v_aload_n dX7_next_8 rfl ?_
    refine v_aload_n dX7_next_9 rfl ?_
    refine v_get (v := .int (u 0 12)) dX7_next_10 fl_X7_88 rfl rfl ?_
    obtain ⟨zr2, zh3, hd⟩ := g_bind hd
    refine v_cI (dy := 0) (st := []) (st2 := [.int zr2]) dX7_next_13 mv_X7_91 (m_M_byteAt u (u 0 12) w zh3) rfl rfl rfl rfl rfl (by decide) (by decide) rfl rfl ?_
    refine v_bipush dX7_next_16 bp_32 ?_
    refine v_icmp_ne (tgt := 34) dX7_next_18 (by decide) (fun zc4 => ?_) (fun zc4 => ?_)
    · have hd := g_f hd zc4
      refine v_aload_n dX7_next_34 rfl ?_
      refine v_aload_n dX7_next_35 rfl ?_
      refine v_get (v := .int (u 0 12)) dX7_next_36 fl_X7_88 rfl rfl ?_
      refine v_topi (fun zy5 ze6 => ?_)
      have hd := dl_n hd zy5 ze6
      refine v_pti (h2 := (h_M (pw u 0 13 zy5) w)) dX7_next_39 fl_X7_82 rfl (Nat.le_of_ble_eq_true rfl) rfl ?_
      refine v_aload_n dX7_next_42 rfl ?_
      refine v_aload_n dX7_next_43 rfl ?_
      refine v_get (v := .int (u 0 12)) dX7_next_44 fl_X7_88 rfl rfl ?_
      obtain ⟨zr7, zh8, hd⟩ := g_bind hd
      refine v_cI (dy := 0) (st := []) (st2 := [.int zr7]) dX7_next_47 mv_X7_91 (m_M_byteAt (pw u 0 13 zy5) (u 0 12) w zh8) rfl rfl rfl rfl rfl (by decide) (by decide) rfl rfl ?_
      refine v_istore_n (i := 1) (L2 := [(1, .int zr7), (0, .ref 0)]) dX7_next_50 rfl (Nat.le_of_ble_eq_true rfl) rfl ?_
      refine v_iload_n dX7_next_51 rfl ?_
      refine v_if_ge (tgt := 63) dX7_next_52 (by decide) (fun zc9 => ?_) (fun zc9 => ?_)
      · have hd := g_t hd zc9
        refine v_iload_n dX7_next_63 rfl ?_
        refine v_i2l dX7_next_64 ?_
        refine v_ldc2 dX7_next_65 kc_X7_106 ?_
        refine v_ldc2 dX7_next_68 kc_X7_108 ?_
        obtain ⟨zr10, zh11, hd⟩ := g_bind hd
        refine v_cS (dy := 0) (st := []) (st2 := [.int zr10]) (h2 := (h_M (pw u 0 13 zy5) w)) [] dX7_next_71 mz_X7_72 (m_P_in zr7.toInt64 (97 : Int64) (122 : Int64) zh11) rfl rfl rfl rfl rfl rfl (by decide) (by decide) rfl rfl rfl ?_
        refine v_if_eq (tgt := 116) dX7_next_74 (by decide) (fun zc12 => ?_) (fun zc12 => ?_)
        · have hd := g_t hd zc12
          refine v_iload_n dX7_next_116 rfl ?_
          refine v_i2l dX7_next_117 ?_
          refine v_ldc2 dX7_next_118 kc_X7_110 ?_
          refine v_ldc2 dX7_next_121 kc_X7_112 ?_
          obtain ⟨zr13, zh14, hd⟩ := g_bind hd
          refine v_cS (dy := 0) (st := []) (st2 := [.int zr13]) (h2 := (h_M (pw u 0 13 zy5) w)) [] dX7_next_124 mz_X7_72 (m_P_in zr7.toInt64 (48 : Int64) (57 : Int64) zh14) rfl rfl rfl rfl rfl rfl (by decide) (by decide) rfl rfl rfl ?_
          refine v_if_eq (tgt := 243) dX7_next_127 (by decide) (fun zc15 => ?_) (fun zc15 => ?_)
          · have hd := g_t hd zc15
            refine v_aload_n dX7_next_243 rfl ?_
            refine v_iconst dX7_next_244 ic_3 ?_
            refine v_pti (h2 := (h_M (pw (pw u 0 13 zy5) 0 14 (3 : Int32)) w)) dX7_next_245 fl_X7_103 rfl (Nat.le_of_ble_eq_true rfl) rfl ?_
            refine v_aload_n dX7_next_248 rfl ?_
            refine v_iload_n dX7_next_249 rfl ?_
            refine v_bipush dX7_next_250 bp_59 ?_
            refine v_icmp_ne (tgt := 259) dX7_next_252 (by decide) (fun zc16 => ?_) (fun zc16 => ?_)
            · have hd := g_f hd zc16
              refine v_iconst dX7_next_259 ic_0 ?_
              refine v_loc [1] rfl ?_
              exact v_M_next_260 w (pw (pw u 0 13 zy5) 0 14 (3 : Int32)) (0 : Int32) hd
            · have hd := g_t hd zc16
              refine v_iconst dX7_next_255 ic_1 ?_
              refine v_goto (tgt := 260) dX7_next_256 (by decide) ?_
              refine v_loc [1] rfl ?_
              exact v_M_next_260 w (pw (pw u 0 13 zy5) 0 14 (3 : Int32)) (1 : Int32) hd
          · have hd := g_f hd zc15
            refine v_aload_n dX7_next_130 rfl ?_
            refine v_iconst dX7_next_131 ic_2 ?_
            refine v_pti (h2 := (h_M (pw (pw u 0 13 zy5) 0 14 (2 : Int32)) w)) dX7_next_132 fl_X7_103 rfl (Nat.le_of_ble_eq_true rfl) rfl ?_
            refine v_aload_n dX7_next_135 rfl ?_
            refine v_iconst dX7_next_136 ic_0 ?_
            refine v_pti (h2 := (h_M (pw (pw (pw u 0 13 zy5) 0 14 (2 : Int32)) 0 15 (0 : Int32)) w)) dX7_next_137 fl_X7_114 rfl (Nat.le_of_ble_eq_true rfl) rfl ?_
            refine v_loc [1] rfl ?_
            exact v_M_next_140 w FU (pw (pw (pw u 0 13 zy5) 0 14 (2 : Int32)) 0 15 (0 : Int32)) hd
        · have hd := g_f hd zc12
          refine v_aload_n dX7_next_77 rfl ?_
          refine v_iconst dX7_next_78 ic_1 ?_
          refine v_pti (h2 := (h_M (pw (pw u 0 13 zy5) 0 14 (1 : Int32)) w)) dX7_next_79 fl_X7_103 rfl (Nat.le_of_ble_eq_true rfl) rfl ?_
          refine v_loc [1] rfl ?_
          exact v_M_next_82 w FU (pw (pw u 0 13 zy5) 0 14 (1 : Int32)) hd
      · have hd := g_f hd zc9
        refine v_aload_n dX7_next_55 rfl ?_
        refine v_iconst dX7_next_56 ic_0 ?_
        refine v_pti (h2 := (h_M (pw (pw u 0 13 zy5) 0 14 (0 : Int32)) w)) dX7_next_57 fl_X7_103 rfl (Nat.le_of_ble_eq_true rfl) rfl ?_
        refine v_goto (tgt := 274) dX7_next_60 (by decide) ?_
        obtain rfl := Option.some.inj hd
        exact v_vretE dX7_next_274 rfl rfl rfl
    · have hd := g_t hd zc4
      refine v_aload_n dX7_next_21 rfl ?_
      refine v_dup dX7_next_22 rfl ?_
      refine v_get (v := .int (u 0 12)) dX7_next_23 fl_X7_88 rfl rfl ?_
      refine v_iconst dX7_next_26 ic_1 ?_
      refine v_iadd dX7_next_27 ?_
      refine v_topi (fun zy41 ze42 => ?_)
      have hd := dl_n hd zy41 ze42
      refine v_pti (h2 := (h_M (pw u 0 12 zy41) w)) dX7_next_28 fl_X7_88 rfl (Nat.le_of_ble_eq_true rfl) rfl ?_
      refine v_goto (tgt := 8) dX7_next_31 (by decide) ?_
      exact ih (pw u 0 12 zy41) hd
def d_M_next (u : (Nat → Nat → Int32)) : Option ((Nat → Nat → Int32)) := if (u 0 16) ≤ 0 then (d_M_next_8 FU u) else (some u)
set_option maxRecDepth 100000 in
set_option maxHeartbeats 4000000 in
theorem v_M_next (u : (Nat → Nat → Int32)) (w : Nat → Int64) {r : (Nat → Nat → Int32)} (hd : d_M_next u = some r) : Vd RX7 "next" cX7_next 2 none (rm 1) (ab_eq none (h_M r w)) 0 0 0 0 0 [(0, .ref 0)] [] (h_M u w) := by
  unfold d_M_next at hd
  refine v_aload_n dX7_next_0 rfl ?_
  refine v_get (v := .int (u 0 16)) dX7_next_1 fl_X7_79 rfl rfl ?_
  refine v_if_le (tgt := 8) dX7_next_4 (by decide) (fun zc1 => ?_) (fun zc1 => ?_)
  · have hd := g_t hd zc1
    exact v_M_next_8 w FU u hd
  · have hd := g_f hd zc1
    obtain rfl := Option.some.inj hd
    exact v_vretE dX7_next_7 rfl rfl rfl
theorem m_M_next (u : (Nat → Nat → Int32)) (w : Nat → Int64) {r : (Nat → Nat → Int32)} (hd : d_M_next u = some r) : Mt yX7_next cX7_next 2 none (rm 1) [.ref 0] (h_M u w) (ab_eq none (h_M r w)) := Mt.of (by decide +kernel) (fun _ _ _ => trivial) (Nat.le_of_ble_eq_true rfl) (v_M_next u w hd)

def d_M_looked_49  (u : (Nat → Nat → Int32)) : Option (Int32 × (Nat → Nat → Int32)) := if (u 0 16) = 0 then (some ((u 0 15), u)) else (some ((0 : Int32), u))
set_option maxRecDepth 100000 in
set_option maxHeartbeats 4000000 in
theorem v_M_looked_49 (w : Nat → Int64) {r : Int32 × (Nat → Nat → Int32)}  (u : (Nat → Nat → Int32)) (hd : d_M_looked_49  u = some r) : Vd RX7 "looked" cX7_looked 3 (some .int) (rm 1) (ab_eq (some (.int r.1)) (h_M r.2 w)) 0 0 0 0 49 [(0, .ref 0)] [] (h_M u w) := by
  unfold d_M_looked_49 at hd
  refine v_aload_n dX7_looked_49 rfl ?_
  refine v_get (v := .int (u 0 16)) dX7_looked_50 fl_X7_79 rfl rfl ?_
  refine v_if_ne (tgt := 63) dX7_looked_53 (by decide) (fun zc3 => ?_) (fun zc3 => ?_)
  · have hd := g_f hd zc3
    refine v_iconst dX7_looked_63 ic_0 ?_
    obtain rfl := Option.some.inj hd
    exact v_iretE dX7_looked_64 rfl rfl rfl rfl
  · have hd := g_t hd zc3
    refine v_aload_n dX7_looked_56 rfl ?_
    refine v_get (v := .int (u 0 15)) dX7_looked_57 fl_X7_114 rfl rfl ?_
    refine v_goto (tgt := 64) dX7_looked_60 (by decide) ?_
    obtain rfl := Option.some.inj hd
    exact v_iretE dX7_looked_64 rfl rfl rfl rfl

def d_M_looked_25  (u : (Nat → Nat → Int32)) (x1 : Int32) (x2 : Int32) : Option (Int32 × (Nat → Nat → Int32)) := if (u 0 16) = 0 then ((d_P_in ((u 0 15).toInt64) x1.toInt64 x2.toInt64).bind fun zr4 => (d_M_needs u zr4 (3 : Int32)).bind fun zr6 => d_M_looked_49 zr6) else (d_M_looked_49 u)
set_option maxRecDepth 100000 in
set_option maxHeartbeats 4000000 in
theorem v_M_looked_25 (w : Nat → Int64) {r : Int32 × (Nat → Nat → Int32)}  (u : (Nat → Nat → Int32)) (x1 : Int32) (x2 : Int32) (hd : d_M_looked_25  u x1 x2 = some r) : Vd RX7 "looked" cX7_looked 3 (some .int) (rm 1) (ab_eq (some (.int r.1)) (h_M r.2 w)) 0 0 0 0 25 [(0, .ref 0), (1, .int x1), (2, .int x2)] [] (h_M u w) := by
  unfold d_M_looked_25 at hd
  refine v_aload_n dX7_looked_25 rfl ?_
  refine v_get (v := .int (u 0 16)) dX7_looked_26 fl_X7_79 rfl rfl ?_
  refine v_if_ne (tgt := 49) dX7_looked_29 (by decide) (fun zc2 => ?_) (fun zc2 => ?_)
  · have hd := g_f hd zc2
    refine v_loc [0] rfl ?_
    exact v_M_looked_49 w u hd
  · have hd := g_t hd zc2
    refine v_aload_n dX7_looked_32 rfl ?_
    refine v_aload_n dX7_looked_33 rfl ?_
    refine v_get (v := .int (u 0 15)) dX7_looked_34 fl_X7_114 rfl rfl ?_
    refine v_i2l dX7_looked_37 ?_
    refine v_iload_n dX7_looked_38 rfl ?_
    refine v_i2l dX7_looked_39 ?_
    refine v_iload_n dX7_looked_40 rfl ?_
    refine v_i2l dX7_looked_41 ?_
    obtain ⟨zr4, zh5, hd⟩ := g_bind hd
    refine v_cS (dy := 0) (st := [.ref 0]) (st2 := [.int zr4, .ref 0]) (h2 := (h_M u w)) [] dX7_looked_42 mz_X7_72 (m_P_in ((u 0 15).toInt64) x1.toInt64 x2.toInt64 zh5) rfl rfl rfl rfl rfl rfl (by decide) (by decide) rfl rfl rfl ?_
    refine v_iconst dX7_looked_45 ic_3 ?_
    obtain ⟨zr6, zh7, hd⟩ := g_bind hd
    refine v_cI (dy := 0) (st := []) (st2 := []) dX7_looked_46 mv_X7_117 (m_M_needs u zr4 (3 : Int32) w zh7) rfl rfl rfl rfl rfl (by decide) (by decide) rfl rfl ?_
    refine v_loc [0] rfl ?_
    exact v_M_looked_49 w zr6 hd

def d_M_looked_21  (u : (Nat → Nat → Int32)) (x1 : Int32) (x2 : Int32) (s1 : Int32) : Option (Int32 × (Nat → Nat → Int32)) := (d_M_needs u s1 (2 : Int32)).bind fun zr9 => d_M_looked_25 zr9 x1 x2
set_option maxRecDepth 100000 in
set_option maxHeartbeats 4000000 in
theorem v_M_looked_21 (w : Nat → Int64) {r : Int32 × (Nat → Nat → Int32)}  (u : (Nat → Nat → Int32)) (x1 : Int32) (x2 : Int32) (s1 : Int32) (hd : d_M_looked_21  u x1 x2 s1 = some r) : Vd RX7 "looked" cX7_looked 3 (some .int) (rm 1) (ab_eq (some (.int r.1)) (h_M r.2 w)) 0 0 0 0 21 [(0, .ref 0), (1, .int x1), (2, .int x2)] [.int s1, .ref 0] (h_M u w) := by
  unfold d_M_looked_21 at hd
  refine v_iconst dX7_looked_21 ic_2 ?_
  obtain ⟨zr9, zh10, hd⟩ := g_bind hd
  refine v_cI (dy := 0) (st := []) (st2 := []) dX7_looked_22 mv_X7_117 (m_M_needs u s1 (2 : Int32) w zh10) rfl rfl rfl rfl rfl (by decide) (by decide) rfl rfl ?_
  exact v_M_looked_25 w zr9 x1 x2 hd
def d_M_looked (u : (Nat → Nat → Int32)) (a1 : Int32) (a2 : Int32) : Option (Int32 × (Nat → Nat → Int32)) := if (u 0 16) = 0 then (if (u 0 14) = (2 : Int32) then (d_M_looked_21 u a1 a2 (1 : Int32)) else (d_M_looked_21 u a1 a2 (0 : Int32))) else (d_M_looked_25 u a1 a2)
set_option maxRecDepth 100000 in
set_option maxHeartbeats 4000000 in
theorem v_M_looked (u : (Nat → Nat → Int32)) (a1 : Int32) (a2 : Int32) (w : Nat → Int64) {r : Int32 × (Nat → Nat → Int32)} (hd : d_M_looked u a1 a2 = some r) : Vd RX7 "looked" cX7_looked 3 (some .int) (rm 1) (ab_eq (some (.int r.1)) (h_M r.2 w)) 0 0 0 0 0 [(0, .ref 0), (1, .int a1), (2, .int a2)] [] (h_M u w) := by
  unfold d_M_looked at hd
  refine v_aload_n dX7_looked_0 rfl ?_
  refine v_get (v := .int (u 0 16)) dX7_looked_1 fl_X7_79 rfl rfl ?_
  refine v_if_ne (tgt := 25) dX7_looked_4 (by decide) (fun zc1 => ?_) (fun zc1 => ?_)
  · have hd := g_f hd zc1
    exact v_M_looked_25 w u a1 a2 hd
  · have hd := g_t hd zc1
    refine v_aload_n dX7_looked_7 rfl ?_
    refine v_aload_n dX7_looked_8 rfl ?_
    refine v_get (v := .int (u 0 14)) dX7_looked_9 fl_X7_103 rfl rfl ?_
    refine v_iconst dX7_looked_12 ic_2 ?_
    refine v_icmp_ne (tgt := 20) dX7_looked_13 (by decide) (fun zc8 => ?_) (fun zc8 => ?_)
    · have hd := g_f hd zc8
      refine v_iconst dX7_looked_20 ic_0 ?_
      exact v_M_looked_21 w u a1 a2 (0 : Int32) hd
    · have hd := g_t hd zc8
      refine v_iconst dX7_looked_16 ic_1 ?_
      refine v_goto (tgt := 21) dX7_looked_17 (by decide) ?_
      exact v_M_looked_21 w u a1 a2 (1 : Int32) hd
theorem m_M_looked (u : (Nat → Nat → Int32)) (a1 : Int32) (a2 : Int32) (w : Nat → Int64) {r : Int32 × (Nat → Nat → Int32)} (hd : d_M_looked u a1 a2 = some r) : Mt yX7_looked cX7_looked 3 (some .int) (rm 1) [.ref 0, .int a1, .int a2] (h_M u w) (ab_eq (some (.int r.1)) (h_M r.2 w)) := Mt.of (by decide +kernel) (fun _ _ _ => trivial) (Nat.le_of_ble_eq_true rfl) (v_M_looked u a1 a2 w hd)
def d_M_readNumber (u : (Nat → Nat → Int32)) (a1 : Int32) (a2 : Int32) : Option (Int32 × (Nat → Nat → Int32)) := (d_M_looked u a1 a2).bind fun zr1 => (d_M_next zr1.2).bind fun zr3 => some (zr1.1, zr3)
set_option maxRecDepth 100000 in
set_option maxHeartbeats 4000000 in
theorem v_M_readNumber (u : (Nat → Nat → Int32)) (a1 : Int32) (a2 : Int32) (w : Nat → Int64) {r : Int32 × (Nat → Nat → Int32)} (hd : d_M_readNumber u a1 a2 = some r) : Vd RX7 "readNumber" cX7_readNumber 4 (some .int) (rm 2) (ab_eq (some (.int r.1)) (h_M r.2 w)) 0 0 0 0 0 [(0, .ref 0), (1, .int a1), (2, .int a2)] [] (h_M u w) := by
  unfold d_M_readNumber at hd
  refine v_aload_n dX7_readNumber_0 rfl ?_
  refine v_iload_n dX7_readNumber_1 rfl ?_
  refine v_iload_n dX7_readNumber_2 rfl ?_
  obtain ⟨zr1, zh2, hd⟩ := g_bind hd
  refine v_cI (dy := 1) (st := []) (st2 := [.int zr1.1]) dX7_readNumber_3 mv_X7_121 (m_M_looked u a1 a2 w zh2) rfl rfl rfl rfl rfl (by decide) (by decide) rfl rfl ?_
  refine v_istore_n (i := 3) (L2 := [(3, .int zr1.1), (0, .ref 0), (1, .int a1), (2, .int a2)]) dX7_readNumber_6 rfl (Nat.le_of_ble_eq_true rfl) rfl ?_
  refine v_aload_n dX7_readNumber_7 rfl ?_
  obtain ⟨zr3, zh4, hd⟩ := g_bind hd
  refine v_cI (dy := 1) (st := []) (st2 := []) dX7_readNumber_8 mv_X7_125 (m_M_next zr1.2 w zh4) rfl rfl rfl rfl rfl (by decide) (by decide) rfl rfl ?_
  refine v_iload_n dX7_readNumber_11 rfl ?_
  obtain rfl := Option.some.inj hd
  exact v_iretE dX7_readNumber_12 rfl rfl rfl rfl
theorem m_M_readNumber (u : (Nat → Nat → Int32)) (a1 : Int32) (a2 : Int32) (w : Nat → Int64) {r : Int32 × (Nat → Nat → Int32)} (hd : d_M_readNumber u a1 a2 = some r) : Mt yX7_readNumber cX7_readNumber 4 (some .int) (rm 2) [.ref 0, .int a1, .int a2] (h_M u w) (ab_eq (some (.int r.1)) (h_M r.2 w)) := Mt.of (by decide +kernel) (fun _ _ _ => trivial) (Nat.le_of_ble_eq_true rfl) (v_M_readNumber u a1 a2 w hd)

def d_M_readHouse_27  (u : (Nat → Nat → Int32)) (x1 : Int32) : Option (Int32 × (Nat → Nat → Int32)) := dl (u 0 9) fun zy4 => some (x1, (pw u 0 9 zy4))
set_option maxRecDepth 100000 in
set_option maxHeartbeats 4000000 in
theorem v_M_readHouse_27 (w : Nat → Int64) {r : Int32 × (Nat → Nat → Int32)}  (u : (Nat → Nat → Int32)) (x1 : Int32) (hd : d_M_readHouse_27  u x1 = some r) : Vd RX7 "readHouse" cX7_readHouse 2 (some .int) (rm 3) (ab_eq (some (.int r.1)) (h_M r.2 w)) 0 0 0 0 27 [(0, .ref 0), (1, .int x1)] [.ref 0] (h_M u w) := by
  unfold d_M_readHouse_27 at hd
  refine v_aload_n dX7_readHouse_27 rfl ?_
  refine v_get (v := .int (u 0 9)) dX7_readHouse_28 fl_X7_64 rfl rfl ?_
  refine v_topi (fun zy4 ze5 => ?_)
  have hd := dl_n hd zy4 ze5
  refine v_pti (h2 := (h_M (pw u 0 9 zy4) w)) dX7_readHouse_31 fl_X7_64 rfl (Nat.le_of_ble_eq_true rfl) rfl ?_
  refine v_iload_n dX7_readHouse_34 rfl ?_
  obtain rfl := Option.some.inj hd
  exact v_iretE dX7_readHouse_35 rfl rfl rfl rfl
def d_M_readHouse (u : (Nat → Nat → Int32)) : Option (Int32 × (Nat → Nat → Int32)) := (d_M_readNumber u (0 : Int32) (4 : Int32)).bind fun zr1 => if zr1.1 ≤ (zr1.2 0 9) then (d_M_readHouse_27 zr1.2 zr1.1) else (if (zr1.2 0 16) = 0 then (some (zr1.1, (pw zr1.2 0 9 zr1.1))) else (d_M_readHouse_27 zr1.2 zr1.1))
set_option maxRecDepth 100000 in
set_option maxHeartbeats 4000000 in
theorem v_M_readHouse (u : (Nat → Nat → Int32)) (w : Nat → Int64) {r : Int32 × (Nat → Nat → Int32)} (hd : d_M_readHouse u = some r) : Vd RX7 "readHouse" cX7_readHouse 2 (some .int) (rm 3) (ab_eq (some (.int r.1)) (h_M r.2 w)) 0 0 0 0 0 [(0, .ref 0)] [] (h_M u w) := by
  unfold d_M_readHouse at hd
  refine v_aload_n dX7_readHouse_0 rfl ?_
  refine v_iconst dX7_readHouse_1 ic_0 ?_
  refine v_iconst dX7_readHouse_2 ic_4 ?_
  obtain ⟨zr1, zh2, hd⟩ := g_bind hd
  refine v_cI (dy := 2) (st := []) (st2 := [.int zr1.1]) dX7_readHouse_3 mv_X7_128 (m_M_readNumber u (0 : Int32) (4 : Int32) w zh2) rfl rfl rfl rfl rfl (by decide) (by decide) rfl rfl ?_
  refine v_istore_n (i := 1) (L2 := [(1, .int zr1.1), (0, .ref 0)]) dX7_readHouse_6 rfl (Nat.le_of_ble_eq_true rfl) rfl ?_
  refine v_aload_n dX7_readHouse_7 rfl ?_
  refine v_iload_n dX7_readHouse_8 rfl ?_
  refine v_aload_n dX7_readHouse_9 rfl ?_
  refine v_get (v := .int (zr1.2 0 9)) dX7_readHouse_10 fl_X7_64 rfl rfl ?_
  refine v_icmp_le (tgt := 27) dX7_readHouse_13 (by decide) (fun zc3 => ?_) (fun zc3 => ?_)
  · have hd := g_t hd zc3
    refine v_loc [1, 0] rfl ?_
    exact v_M_readHouse_27 w zr1.2 zr1.1 hd
  · have hd := g_f hd zc3
    refine v_aload_n dX7_readHouse_16 rfl ?_
    refine v_get (v := .int (zr1.2 0 16)) dX7_readHouse_17 fl_X7_79 rfl rfl ?_
    refine v_if_ne (tgt := 27) dX7_readHouse_20 (by decide) (fun zc6 => ?_) (fun zc6 => ?_)
    · have hd := g_f hd zc6
      refine v_loc [1, 0] rfl ?_
      exact v_M_readHouse_27 w zr1.2 zr1.1 hd
    · have hd := g_t hd zc6
      refine v_iload_n dX7_readHouse_23 rfl ?_
      refine v_goto (tgt := 31) dX7_readHouse_24 (by decide) ?_
      refine v_pti (h2 := (h_M (pw zr1.2 0 9 zr1.1) w)) dX7_readHouse_31 fl_X7_64 rfl (Nat.le_of_ble_eq_true rfl) rfl ?_
      refine v_iload_n dX7_readHouse_34 rfl ?_
      obtain rfl := Option.some.inj hd
      exact v_iretE dX7_readHouse_35 rfl rfl rfl rfl
theorem m_M_readHouse (u : (Nat → Nat → Int32)) (w : Nat → Int64) {r : Int32 × (Nat → Nat → Int32)} (hd : d_M_readHouse u = some r) : Mt yX7_readHouse cX7_readHouse 2 (some .int) (rm 3) [.ref 0] (h_M u w) (ab_eq (some (.int r.1)) (h_M r.2 w)) := Mt.of (by decide +kernel) (fun _ _ _ => trivial) (Nat.le_of_ble_eq_true rfl) (v_M_readHouse u w hd)

def d_M_readRain_52  (u : (Nat → Nat → Int32)) : Option ((Nat → Nat → Int32)) := (d_M_next u).bind fun zr4 => some zr4
set_option maxRecDepth 100000 in
set_option maxHeartbeats 4000000 in
theorem v_M_readRain_52 (w : Nat → Int64) {r : (Nat → Nat → Int32)}  (u : (Nat → Nat → Int32)) (hd : d_M_readRain_52  u = some r) : Vd RX7 "readRain" cX7_readRain 2 none (rm 2) (ab_eq none (h_M r w)) 0 0 0 0 52 [(0, .ref 0)] [] (h_M u w) := by
  unfold d_M_readRain_52 at hd
  refine v_aload_n dX7_readRain_52 rfl ?_
  obtain ⟨zr4, zh5, hd⟩ := g_bind hd
  refine v_cI (dy := 1) (st := []) (st2 := []) dX7_readRain_53 mv_X7_125 (m_M_next u w zh5) rfl rfl rfl rfl rfl (by decide) (by decide) rfl rfl ?_
  obtain rfl := Option.some.inj hd
  exact v_vretE dX7_readRain_56 rfl rfl rfl

def d_M_readRain_35  (u : (Nat → Nat → Int32)) (x1 : Int32) (s1 : Int32) : Option ((Nat → Nat → Int32)) := (d_M_needs u s1 (4 : Int32)).bind fun zr7 => dl (((zr7 4) (18 : Int32).toNatClampNeg) ||| ((1 : Int32) <<< (x1 &&& 31))) fun zy9 => d_M_readRain_52 (pw zr7 4 (18 : Int32).toNatClampNeg zy9)
set_option maxRecDepth 100000 in
set_option maxHeartbeats 4000000 in
theorem v_M_readRain_35 (w : Nat → Int64) {r : (Nat → Nat → Int32)}  (u : (Nat → Nat → Int32)) (x1 : Int32) (s1 : Int32) (hd : d_M_readRain_35  u x1 s1 = some r) : Vd RX7 "readRain" cX7_readRain 2 none (rm 2) (ab_eq none (h_M r w)) 0 0 0 0 35 [(0, .ref 0), (1, .int x1)] [.int s1, .ref 0] (h_M u w) := by
  unfold d_M_readRain_35 at hd
  refine v_iconst dX7_readRain_35 ic_4 ?_
  obtain ⟨zr7, zh8, hd⟩ := g_bind hd
  refine v_cI (dy := 0) (st := []) (st2 := []) dX7_readRain_36 mv_X7_117 (m_M_needs u s1 (4 : Int32) w zh8) rfl rfl rfl rfl rfl (by decide) (by decide) rfl rfl ?_
  refine v_aload_n dX7_readRain_39 rfl ?_
  refine v_get (v := .ref 4) dX7_readRain_40 fl_X7_20 rfl rfl ?_
  refine v_bipush dX7_readRain_43 bp_18 ?_
  refine v_dup2 dX7_readRain_45 rfl rfl ?_
  refine v_iald (f := (zr7 4)) dX7_readRain_46 rfl gl_18_41 ?_
  refine v_iconst dX7_readRain_47 ic_1 ?_
  refine v_iload_n dX7_readRain_48 rfl ?_
  refine v_ishl dX7_readRain_49 ?_
  refine v_ior dX7_readRain_50 ?_
  refine v_topi (fun zy9 ze10 => ?_)
  have hd := dl_n hd zy9 ze10
  refine v_ist (f := (zr7 4)) (h2 := (h_M (pw zr7 4 (18 : Int32).toNatClampNeg zy9) w)) dX7_readRain_51 rfl gl_18_41 rfl ?_
  refine v_loc [0] rfl ?_
  exact v_M_readRain_52 w (pw zr7 4 (18 : Int32).toNatClampNeg zy9) hd
def d_M_readRain (u : (Nat → Nat → Int32)) : Option ((Nat → Nat → Int32)) := (d_M_looked u (0 : Int32) (6 : Int32)).bind fun zr1 => if (zr1.2 0 16) = 0 then (if ((((zr1.2 4) (18 : Int32).toNatClampNeg) >>> (zr1.1 &&& 31)) &&& (1 : Int32)) = 0 then (d_M_readRain_35 zr1.2 zr1.1 (1 : Int32)) else (d_M_readRain_35 zr1.2 zr1.1 (0 : Int32))) else (d_M_readRain_52 zr1.2)
set_option maxRecDepth 100000 in
set_option maxHeartbeats 4000000 in
theorem v_M_readRain (u : (Nat → Nat → Int32)) (w : Nat → Int64) {r : (Nat → Nat → Int32)} (hd : d_M_readRain u = some r) : Vd RX7 "readRain" cX7_readRain 2 none (rm 2) (ab_eq none (h_M r w)) 0 0 0 0 0 [(0, .ref 0)] [] (h_M u w) := by
  unfold d_M_readRain at hd
  refine v_aload_n dX7_readRain_0 rfl ?_
  refine v_iconst dX7_readRain_1 ic_0 ?_
  refine v_bipush dX7_readRain_2 bp_6 ?_
  obtain ⟨zr1, zh2, hd⟩ := g_bind hd
  refine v_cI (dy := 1) (st := []) (st2 := [.int zr1.1]) dX7_readRain_4 mv_X7_121 (m_M_looked u (0 : Int32) (6 : Int32) w zh2) rfl rfl rfl rfl rfl (by decide) (by decide) rfl rfl ?_
  refine v_istore_n (i := 1) (L2 := [(1, .int zr1.1), (0, .ref 0)]) dX7_readRain_7 rfl (Nat.le_of_ble_eq_true rfl) rfl ?_
  refine v_aload_n dX7_readRain_8 rfl ?_
  refine v_get (v := .int (zr1.2 0 16)) dX7_readRain_9 fl_X7_79 rfl rfl ?_
  refine v_if_ne (tgt := 52) dX7_readRain_12 (by decide) (fun zc3 => ?_) (fun zc3 => ?_)
  · have hd := g_f hd zc3
    refine v_loc [1] rfl ?_
    exact v_M_readRain_52 w zr1.2 hd
  · have hd := g_t hd zc3
    refine v_aload_n dX7_readRain_15 rfl ?_
    refine v_aload_n dX7_readRain_16 rfl ?_
    refine v_get (v := .ref 4) dX7_readRain_17 fl_X7_20 rfl rfl ?_
    refine v_bipush dX7_readRain_20 bp_18 ?_
    refine v_iald (f := (zr1.2 4)) dX7_readRain_22 rfl gl_18_41 ?_
    refine v_iload_n dX7_readRain_23 rfl ?_
    refine v_ishr dX7_readRain_24 ?_
    refine v_iconst dX7_readRain_25 ic_1 ?_
    refine v_iand dX7_readRain_26 ?_
    refine v_if_ne (tgt := 34) dX7_readRain_27 (by decide) (fun zc6 => ?_) (fun zc6 => ?_)
    · have hd := g_f hd zc6
      refine v_iconst dX7_readRain_34 ic_0 ?_
      refine v_loc [1, 0] rfl ?_
      exact v_M_readRain_35 w zr1.2 zr1.1 (0 : Int32) hd
    · have hd := g_t hd zc6
      refine v_iconst dX7_readRain_30 ic_1 ?_
      refine v_goto (tgt := 35) dX7_readRain_31 (by decide) ?_
      refine v_loc [1, 0] rfl ?_
      exact v_M_readRain_35 w zr1.2 zr1.1 (1 : Int32) hd
theorem m_M_readRain (u : (Nat → Nat → Int32)) (w : Nat → Int64) {r : (Nat → Nat → Int32)} (hd : d_M_readRain u = some r) : Mt yX7_readRain cX7_readRain 2 none (rm 2) [.ref 0] (h_M u w) (ab_eq none (h_M r w)) := Mt.of (by decide +kernel) (fun _ _ _ => trivial) (Nat.le_of_ble_eq_true rfl) (v_M_readRain u w hd)
def d_M_readLineOf (u : (Nat → Nat → Int32)) (a1 : Int32) : Option ((Nat → Nat → Int32)) := if a1 = (4 : Int32) then ((d_M_readHouse u).bind fun zr2 => (d_M_readNumber (pw zr2.2 4 (15 : Int32).toNatClampNeg zr2.1) (0 : Int32) (20 : Int32)).bind fun zr4 => (d_M_readNumber (pw zr4.2 4 (16 : Int32).toNatClampNeg zr4.1) (0 : Int32) (9 : Int32)).bind fun zr6 => some (pw zr6.2 4 (17 : Int32).toNatClampNeg zr6.1)) else if a1 = (5 : Int32) then ((d_M_readRain u).bind fun zr9 => some zr9) else if a1 = (6 : Int32) then ((d_M_readHouse u).bind fun zr12 => if gi ((2 : Int32) * (u 0 7)) 8 = true then dl (pw zr12.2 5 ((2 : Int32) * (u 0 7)).toNatClampNeg zr12.1) fun zu15 => (d_M_readNumber zu15 (1 : Int32) (20 : Int32)).bind fun zr17 => if gi (((2 : Int32) * (zu15 0 7)) + (1 : Int32)) 8 = true then dl (pw zr17.2 5 (((2 : Int32) * (zu15 0 7)) + (1 : Int32)).toNatClampNeg zr17.1) fun zu20 => dl ((zu20 0 7) + (1 : Int32)) fun zy22 => some (pw zu20 0 7 zy22) else none else none) else (if gi ((0 : Int32) + (u 0 5)) 41 = true then dl (pw u 4 ((0 : Int32) + (u 0 5)).toNatClampNeg a1) fun zu25 => (d_M_readNumber zu25 (0 : Int32) (99 : Int32)).bind fun zr27 => if gi ((5 : Int32) + (zu25 0 5)) 41 = true then dl (pw zr27.2 4 ((5 : Int32) + (zu25 0 5)).toNatClampNeg zr27.1) fun zu30 => dl ((zu30 0 5) + (1 : Int32)) fun zy32 => some (pw zu30 0 5 zy32) else none else none)
set_option maxRecDepth 100000 in
set_option maxHeartbeats 4000000 in
theorem v_M_readLineOf (u : (Nat → Nat → Int32)) (a1 : Int32) (w : Nat → Int64) {r : (Nat → Nat → Int32)} (hd : d_M_readLineOf u a1 = some r) : Vd RX7 "readLineOf" cX7_readLineOf 2 none (rm 4) (ab_eq none (h_M r w)) 0 0 0 0 0 [(0, .ref 0), (1, .int a1)] [] (h_M u w) := by
  unfold d_M_readLineOf at hd
  refine v_iload_n dX7_readLineOf_0 rfl ?_
  by_cases zc1 : a1 = (4 : Int32)
  · have hd := g_t hd zc1
    refine v_tIn (4 : Int32) (tgt := 28) dX7_readLineOf_1 zc1 (by decide) (by decide) rfl (by decide) ?_
    refine v_aload_n dX7_readLineOf_28 rfl ?_
    refine v_get (v := .ref 4) dX7_readLineOf_29 fl_X7_20 rfl rfl ?_
    refine v_bipush dX7_readLineOf_32 bp_15 ?_
    refine v_aload_n dX7_readLineOf_34 rfl ?_
    obtain ⟨zr2, zh3, hd⟩ := g_bind hd
    refine v_cI (dy := 3) (st := [.int (15 : Int32), .ref 4]) (st2 := [.int zr2.1, .int (15 : Int32), .ref 4]) dX7_readLineOf_35 mv_X7_131 (m_M_readHouse u w zh3) rfl rfl rfl rfl rfl (by decide) (by decide) rfl rfl ?_
    refine v_ist (f := (zr2.2 4)) (h2 := (h_M (pw zr2.2 4 (15 : Int32).toNatClampNeg zr2.1) w)) dX7_readLineOf_38 rfl gl_15_41 rfl ?_
    refine v_aload_n dX7_readLineOf_39 rfl ?_
    refine v_get (v := .ref 4) dX7_readLineOf_40 fl_X7_20 rfl rfl ?_
    refine v_bipush dX7_readLineOf_43 bp_16 ?_
    refine v_aload_n dX7_readLineOf_45 rfl ?_
    refine v_iconst dX7_readLineOf_46 ic_0 ?_
    refine v_bipush dX7_readLineOf_47 bp_20 ?_
    obtain ⟨zr4, zh5, hd⟩ := g_bind hd
    refine v_cI (dy := 2) (st := [.int (16 : Int32), .ref 4]) (st2 := [.int zr4.1, .int (16 : Int32), .ref 4]) dX7_readLineOf_49 mv_X7_128 (m_M_readNumber (pw zr2.2 4 (15 : Int32).toNatClampNeg zr2.1) (0 : Int32) (20 : Int32) w zh5) rfl rfl rfl rfl rfl (by decide) (by decide) rfl rfl ?_
    refine v_ist (f := (zr4.2 4)) (h2 := (h_M (pw zr4.2 4 (16 : Int32).toNatClampNeg zr4.1) w)) dX7_readLineOf_52 rfl gl_16_41 rfl ?_
    refine v_aload_n dX7_readLineOf_53 rfl ?_
    refine v_get (v := .ref 4) dX7_readLineOf_54 fl_X7_20 rfl rfl ?_
    refine v_bipush dX7_readLineOf_57 bp_17 ?_
    refine v_aload_n dX7_readLineOf_59 rfl ?_
    refine v_iconst dX7_readLineOf_60 ic_0 ?_
    refine v_bipush dX7_readLineOf_61 bp_9 ?_
    obtain ⟨zr6, zh7, hd⟩ := g_bind hd
    refine v_cI (dy := 2) (st := [.int (17 : Int32), .ref 4]) (st2 := [.int zr6.1, .int (17 : Int32), .ref 4]) dX7_readLineOf_63 mv_X7_128 (m_M_readNumber (pw zr4.2 4 (16 : Int32).toNatClampNeg zr4.1) (0 : Int32) (9 : Int32) w zh7) rfl rfl rfl rfl rfl (by decide) (by decide) rfl rfl ?_
    refine v_ist (f := (zr6.2 4)) (h2 := (h_M (pw zr6.2 4 (17 : Int32).toNatClampNeg zr6.1) w)) dX7_readLineOf_66 rfl gl_17_41 rfl ?_
    refine v_goto (tgt := 165) dX7_readLineOf_67 (by decide) ?_
    obtain rfl := Option.some.inj hd
    exact v_vretE dX7_readLineOf_165 rfl rfl rfl
  have hd := g_f hd zc1
  by_cases zc8 : a1 = (5 : Int32)
  · have hd := g_t hd zc8
    refine v_tIn (5 : Int32) (tgt := 70) dX7_readLineOf_1 zc8 (by decide) (by decide) rfl (by decide) ?_
    refine v_aload_n dX7_readLineOf_70 rfl ?_
    obtain ⟨zr9, zh10, hd⟩ := g_bind hd
    refine v_cI (dy := 2) (st := []) (st2 := []) dX7_readLineOf_71 mv_X7_135 (m_M_readRain u w zh10) rfl rfl rfl rfl rfl (by decide) (by decide) rfl rfl ?_
    refine v_goto (tgt := 165) dX7_readLineOf_74 (by decide) ?_
    obtain rfl := Option.some.inj hd
    exact v_vretE dX7_readLineOf_165 rfl rfl rfl
  have hd := g_f hd zc8
  by_cases zc11 : a1 = (6 : Int32)
  · have hd := g_t hd zc11
    refine v_tIn (6 : Int32) (tgt := 77) dX7_readLineOf_1 zc11 (by decide) (by decide) rfl (by decide) ?_
    refine v_aload_n dX7_readLineOf_77 rfl ?_
    refine v_get (v := .ref 5) dX7_readLineOf_78 fl_X7_23 rfl rfl ?_
    refine v_iconst dX7_readLineOf_81 ic_2 ?_
    refine v_aload_n dX7_readLineOf_82 rfl ?_
    refine v_get (v := .int (u 0 7)) dX7_readLineOf_83 fl_X7_61 rfl rfl ?_
    refine v_imul dX7_readLineOf_86 ?_
    refine v_aload_n dX7_readLineOf_87 rfl ?_
    obtain ⟨zr12, zh13, hd⟩ := g_bind hd
    refine v_cI (dy := 3) (st := [.int ((2 : Int32) * (u 0 7)), .ref 5]) (st2 := [.int zr12.1, .int ((2 : Int32) * (u 0 7)), .ref 5]) dX7_readLineOf_88 mv_X7_131 (m_M_readHouse u w zh13) rfl rfl rfl rfl rfl (by decide) (by decide) rfl rfl ?_
    obtain ⟨zg14, hd⟩ := g_b hd
    refine v_ist (f := (zr12.2 5)) (h2 := (h_M (pw zr12.2 5 ((2 : Int32) * (u 0 7)).toNatClampNeg zr12.1) w)) dX7_readLineOf_91 rfl (gi_in zg14) rfl ?_
    refine v_nmu (F := fun z => (h_M z w)) (e := (pw zr12.2 5 ((2 : Int32) * (u 0 7)).toNatClampNeg zr12.1)) (fun zu15 ze16 => ?_)
    have hd := dl_n hd zu15 ze16
    refine v_aload_n dX7_readLineOf_92 rfl ?_
    refine v_get (v := .ref 5) dX7_readLineOf_93 fl_X7_23 rfl rfl ?_
    refine v_iconst dX7_readLineOf_96 ic_2 ?_
    refine v_aload_n dX7_readLineOf_97 rfl ?_
    refine v_get (v := .int (zu15 0 7)) dX7_readLineOf_98 fl_X7_61 rfl rfl ?_
    refine v_imul dX7_readLineOf_101 ?_
    refine v_iconst dX7_readLineOf_102 ic_1 ?_
    refine v_iadd dX7_readLineOf_103 ?_
    refine v_aload_n dX7_readLineOf_104 rfl ?_
    refine v_iconst dX7_readLineOf_105 ic_1 ?_
    refine v_bipush dX7_readLineOf_106 bp_20 ?_
    obtain ⟨zr17, zh18, hd⟩ := g_bind hd
    refine v_cI (dy := 2) (st := [.int (((2 : Int32) * (zu15 0 7)) + (1 : Int32)), .ref 5]) (st2 := [.int zr17.1, .int (((2 : Int32) * (zu15 0 7)) + (1 : Int32)), .ref 5]) dX7_readLineOf_108 mv_X7_128 (m_M_readNumber zu15 (1 : Int32) (20 : Int32) w zh18) rfl rfl rfl rfl rfl (by decide) (by decide) rfl rfl ?_
    obtain ⟨zg19, hd⟩ := g_b hd
    refine v_ist (f := (zr17.2 5)) (h2 := (h_M (pw zr17.2 5 (((2 : Int32) * (zu15 0 7)) + (1 : Int32)).toNatClampNeg zr17.1) w)) dX7_readLineOf_111 rfl (gi_in zg19) rfl ?_
    refine v_nmu (F := fun z => (h_M z w)) (e := (pw zr17.2 5 (((2 : Int32) * (zu15 0 7)) + (1 : Int32)).toNatClampNeg zr17.1)) (fun zu20 ze21 => ?_)
    have hd := dl_n hd zu20 ze21
    refine v_aload_n dX7_readLineOf_112 rfl ?_
    refine v_dup dX7_readLineOf_113 rfl ?_
    refine v_get (v := .int (zu20 0 7)) dX7_readLineOf_114 fl_X7_61 rfl rfl ?_
    refine v_iconst dX7_readLineOf_117 ic_1 ?_
    refine v_iadd dX7_readLineOf_118 ?_
    refine v_topi (fun zy22 ze23 => ?_)
    have hd := dl_n hd zy22 ze23
    refine v_pti (h2 := (h_M (pw zu20 0 7 zy22) w)) dX7_readLineOf_119 fl_X7_61 rfl (Nat.le_of_ble_eq_true rfl) rfl ?_
    refine v_goto (tgt := 165) dX7_readLineOf_122 (by decide) ?_
    obtain rfl := Option.some.inj hd
    exact v_vretE dX7_readLineOf_165 rfl rfl rfl
  have hd := g_f hd zc11
  refine v_tOut (tgt := 125) dX7_readLineOf_1 (by have q0 := lv_neT (a := 4) zc1 rfl; have q1 := lv_neT (a := 5) zc8 rfl; have q2 := lv_neT (a := 6) zc11 rfl; omega) (by decide) ?_
  refine v_aload_n dX7_readLineOf_125 rfl ?_
  refine v_get (v := .ref 4) dX7_readLineOf_126 fl_X7_20 rfl rfl ?_
  refine v_iconst dX7_readLineOf_129 ic_0 ?_
  refine v_aload_n dX7_readLineOf_130 rfl ?_
  refine v_get (v := .int (u 0 5)) dX7_readLineOf_131 fl_X7_53 rfl rfl ?_
  refine v_iadd dX7_readLineOf_134 ?_
  refine v_iload_n dX7_readLineOf_135 rfl ?_
  obtain ⟨zg24, hd⟩ := g_b hd
  refine v_ist (f := (u 4)) (h2 := (h_M (pw u 4 ((0 : Int32) + (u 0 5)).toNatClampNeg a1) w)) dX7_readLineOf_136 rfl (gi_in zg24) rfl ?_
  refine v_nmu (F := fun z => (h_M z w)) (e := (pw u 4 ((0 : Int32) + (u 0 5)).toNatClampNeg a1)) (fun zu25 ze26 => ?_)
  have hd := dl_n hd zu25 ze26
  refine v_aload_n dX7_readLineOf_137 rfl ?_
  refine v_get (v := .ref 4) dX7_readLineOf_138 fl_X7_20 rfl rfl ?_
  refine v_iconst dX7_readLineOf_141 ic_5 ?_
  refine v_aload_n dX7_readLineOf_142 rfl ?_
  refine v_get (v := .int (zu25 0 5)) dX7_readLineOf_143 fl_X7_53 rfl rfl ?_
  refine v_iadd dX7_readLineOf_146 ?_
  refine v_aload_n dX7_readLineOf_147 rfl ?_
  refine v_iconst dX7_readLineOf_148 ic_0 ?_
  refine v_bipush dX7_readLineOf_149 bp_99 ?_
  obtain ⟨zr27, zh28, hd⟩ := g_bind hd
  refine v_cI (dy := 2) (st := [.int ((5 : Int32) + (zu25 0 5)), .ref 4]) (st2 := [.int zr27.1, .int ((5 : Int32) + (zu25 0 5)), .ref 4]) dX7_readLineOf_151 mv_X7_128 (m_M_readNumber zu25 (0 : Int32) (99 : Int32) w zh28) rfl rfl rfl rfl rfl (by decide) (by decide) rfl rfl ?_
  obtain ⟨zg29, hd⟩ := g_b hd
  refine v_ist (f := (zr27.2 4)) (h2 := (h_M (pw zr27.2 4 ((5 : Int32) + (zu25 0 5)).toNatClampNeg zr27.1) w)) dX7_readLineOf_154 rfl (gi_in zg29) rfl ?_
  refine v_nmu (F := fun z => (h_M z w)) (e := (pw zr27.2 4 ((5 : Int32) + (zu25 0 5)).toNatClampNeg zr27.1)) (fun zu30 ze31 => ?_)
  have hd := dl_n hd zu30 ze31
  refine v_aload_n dX7_readLineOf_155 rfl ?_
  refine v_dup dX7_readLineOf_156 rfl ?_
  refine v_get (v := .int (zu30 0 5)) dX7_readLineOf_157 fl_X7_53 rfl rfl ?_
  refine v_iconst dX7_readLineOf_160 ic_1 ?_
  refine v_iadd dX7_readLineOf_161 ?_
  refine v_topi (fun zy32 ze33 => ?_)
  have hd := dl_n hd zy32 ze33
  refine v_pti (h2 := (h_M (pw zu30 0 5 zy32) w)) dX7_readLineOf_162 fl_X7_53 rfl (Nat.le_of_ble_eq_true rfl) rfl ?_
  obtain rfl := Option.some.inj hd
  exact v_vretE dX7_readLineOf_165 rfl rfl rfl
theorem m_M_readLineOf (u : (Nat → Nat → Int32)) (a1 : Int32) (w : Nat → Int64) {r : (Nat → Nat → Int32)} (hd : d_M_readLineOf u a1 = some r) : Mt yX7_readLineOf cX7_readLineOf 2 none (rm 4) [.ref 0, .int a1] (h_M u w) (ab_eq none (h_M r w)) := Mt.of (by decide +kernel) (fun _ _ _ => trivial) (Nat.le_of_ble_eq_true rfl) (v_M_readLineOf u a1 w hd)

def d_M_readLine_164  (u : (Nat → Nat → Int32)) : Option ((Nat → Nat → Int32)) := (d_M_next u).bind fun zr20 => some zr20
set_option maxRecDepth 100000 in
set_option maxHeartbeats 4000000 in
theorem v_M_readLine_164 (w : Nat → Int64) {r : (Nat → Nat → Int32)}  (u : (Nat → Nat → Int32)) (hd : d_M_readLine_164  u = some r) : Vd RX7 "readLine" cX7_readLine 2 none (rm 5) (ab_eq none (h_M r w)) 0 0 0 0 164 [(0, .ref 0)] [] (h_M u w) := by
  unfold d_M_readLine_164 at hd
  refine v_aload_n dX7_readLine_164 rfl ?_
  obtain ⟨zr20, zh21, hd⟩ := g_bind hd
  refine v_cI (dy := 1) (st := []) (st2 := []) dX7_readLine_165 mv_X7_125 (m_M_next u w zh21) rfl rfl rfl rfl rfl (by decide) (by decide) rfl rfl ?_
  obtain rfl := Option.some.inj hd
  exact v_vretE dX7_readLine_168 rfl rfl rfl

def d_M_readLine_160  (u : (Nat → Nat → Int32)) (s1 : Int32) : Option ((Nat → Nat → Int32)) := (d_M_needs u s1 (2 : Int32)).bind fun zr23 => d_M_readLine_164 zr23
set_option maxRecDepth 100000 in
set_option maxHeartbeats 4000000 in
theorem v_M_readLine_160 (w : Nat → Int64) {r : (Nat → Nat → Int32)}  (u : (Nat → Nat → Int32)) (s1 : Int32) (hd : d_M_readLine_160  u s1 = some r) : Vd RX7 "readLine" cX7_readLine 2 none (rm 5) (ab_eq none (h_M r w)) 0 0 0 0 160 [(0, .ref 0)] [.int s1, .ref 0] (h_M u w) := by
  unfold d_M_readLine_160 at hd
  refine v_iconst dX7_readLine_160 ic_2 ?_
  obtain ⟨zr23, zh24, hd⟩ := g_bind hd
  refine v_cI (dy := 0) (st := []) (st2 := []) dX7_readLine_161 mv_X7_117 (m_M_needs u s1 (2 : Int32) w zh24) rfl rfl rfl rfl rfl (by decide) (by decide) rfl rfl ?_
  exact v_M_readLine_164 w zr23 hd

def d_M_readLine_119  (u : (Nat → Nat → Int32)) (x1 : Int32) (s1 : Int32) : Option ((Nat → Nat → Int32)) := if s1 = 0 ∨ s1 = 1 then (d_M_next (pw u 0 6 s1)).bind fun zr14 => if (zr14 0 16) ≤ 0 then ((d_M_readLineOf zr14 x1).bind fun zr17 => if (zr17 0 16) = 0 then (if (zr17 0 14) = (3 : Int32) then (d_M_readLine_160 zr17 (1 : Int32)) else (d_M_readLine_160 zr17 (0 : Int32))) else (d_M_readLine_164 zr17)) else (some zr14) else none
set_option maxRecDepth 100000 in
set_option maxHeartbeats 4000000 in
theorem v_M_readLine_119 (w : Nat → Int64) {r : (Nat → Nat → Int32)}  (u : (Nat → Nat → Int32)) (x1 : Int32) (s1 : Int32) (hd : d_M_readLine_119  u x1 s1 = some r) : Vd RX7 "readLine" cX7_readLine 2 none (rm 5) (ab_eq none (h_M r w)) 0 0 0 0 119 [(0, .ref 0), (1, .int x1)] [.int s1, .ref 0] (h_M u w) := by
  unfold d_M_readLine_119 at hd
  obtain ⟨zg13, hd⟩ := g_b hd
  refine v_ptz (h2 := (h_M (pw u 0 6 s1) w)) dX7_readLine_119 fl_X7_57 rfl zg13 (Nat.le_of_ble_eq_true rfl) rfl ?_
  refine v_aload_n dX7_readLine_122 rfl ?_
  obtain ⟨zr14, zh15, hd⟩ := g_bind hd
  refine v_cI (dy := 1) (st := []) (st2 := []) dX7_readLine_123 mv_X7_125 (m_M_next (pw u 0 6 s1) w zh15) rfl rfl rfl rfl rfl (by decide) (by decide) rfl rfl ?_
  refine v_aload_n dX7_readLine_126 rfl ?_
  refine v_get (v := .int (zr14 0 16)) dX7_readLine_127 fl_X7_79 rfl rfl ?_
  refine v_if_le (tgt := 134) dX7_readLine_130 (by decide) (fun zc16 => ?_) (fun zc16 => ?_)
  · have hd := g_t hd zc16
    refine v_aload_n dX7_readLine_134 rfl ?_
    refine v_iload_n dX7_readLine_135 rfl ?_
    obtain ⟨zr17, zh18, hd⟩ := g_bind hd
    refine v_cI (dy := 4) (st := []) (st2 := []) dX7_readLine_136 mv_X7_141 (m_M_readLineOf zr14 x1 w zh18) rfl rfl rfl rfl rfl (by decide) (by decide) rfl rfl ?_
    refine v_aload_n dX7_readLine_139 rfl ?_
    refine v_get (v := .int (zr17 0 16)) dX7_readLine_140 fl_X7_79 rfl rfl ?_
    refine v_if_ne (tgt := 164) dX7_readLine_143 (by decide) (fun zc19 => ?_) (fun zc19 => ?_)
    · have hd := g_f hd zc19
      refine v_loc [0] rfl ?_
      exact v_M_readLine_164 w zr17 hd
    · have hd := g_t hd zc19
      refine v_aload_n dX7_readLine_146 rfl ?_
      refine v_aload_n dX7_readLine_147 rfl ?_
      refine v_get (v := .int (zr17 0 14)) dX7_readLine_148 fl_X7_103 rfl rfl ?_
      refine v_iconst dX7_readLine_151 ic_3 ?_
      refine v_icmp_ne (tgt := 159) dX7_readLine_152 (by decide) (fun zc22 => ?_) (fun zc22 => ?_)
      · have hd := g_f hd zc22
        refine v_iconst dX7_readLine_159 ic_0 ?_
        refine v_loc [0] rfl ?_
        exact v_M_readLine_160 w zr17 (0 : Int32) hd
      · have hd := g_t hd zc22
        refine v_iconst dX7_readLine_155 ic_1 ?_
        refine v_goto (tgt := 160) dX7_readLine_156 (by decide) ?_
        refine v_loc [0] rfl ?_
        exact v_M_readLine_160 w zr17 (1 : Int32) hd
  · have hd := g_f hd zc16
    obtain rfl := Option.some.inj hd
    exact v_vretE dX7_readLine_133 rfl rfl rfl

def d_M_readLine_114  (u : (Nat → Nat → Int32)) (x1 : Int32) : Option ((Nat → Nat → Int32)) := d_M_readLine_119 u x1 (1 : Int32)
set_option maxRecDepth 100000 in
set_option maxHeartbeats 4000000 in
theorem v_M_readLine_114 (w : Nat → Int64) {r : (Nat → Nat → Int32)}  (u : (Nat → Nat → Int32)) (x1 : Int32) (hd : d_M_readLine_114  u x1 = some r) : Vd RX7 "readLine" cX7_readLine 2 none (rm 5) (ab_eq none (h_M r w)) 0 0 0 0 114 [(0, .ref 0), (1, .int x1)] [.ref 0] (h_M u w) := by
  unfold d_M_readLine_114 at hd
  refine v_iconst dX7_readLine_114 ic_1 ?_
  refine v_goto (tgt := 119) dX7_readLine_115 (by decide) ?_
  exact v_M_readLine_119 w u x1 (1 : Int32) hd

def d_M_readLine_97  (u : (Nat → Nat → Int32)) (x1 : Int32) (s1 : Int32) : Option ((Nat → Nat → Int32)) := (d_M_needs u s1 (4 : Int32)).bind fun zr10 => if (zr10 0 6) = 0 then (if x1 = (4 : Int32) then (d_M_readLine_114 zr10 x1) else (d_M_readLine_119 zr10 x1 (0 : Int32))) else (d_M_readLine_114 zr10 x1)
set_option maxRecDepth 100000 in
set_option maxHeartbeats 4000000 in
theorem v_M_readLine_97 (w : Nat → Int64) {r : (Nat → Nat → Int32)}  (u : (Nat → Nat → Int32)) (x1 : Int32) (s1 : Int32) (hd : d_M_readLine_97  u x1 s1 = some r) : Vd RX7 "readLine" cX7_readLine 2 none (rm 5) (ab_eq none (h_M r w)) 0 0 0 0 97 [(0, .ref 0), (1, .int x1)] [.int s1, .ref 0] (h_M u w) := by
  unfold d_M_readLine_97 at hd
  refine v_iconst dX7_readLine_97 ic_4 ?_
  obtain ⟨zr10, zh11, hd⟩ := g_bind hd
  refine v_cI (dy := 0) (st := []) (st2 := []) dX7_readLine_98 mv_X7_117 (m_M_needs u s1 (4 : Int32) w zh11) rfl rfl rfl rfl rfl (by decide) (by decide) rfl rfl ?_
  refine v_aload_n dX7_readLine_101 rfl ?_
  refine v_aload_n dX7_readLine_102 rfl ?_
  refine v_get (v := .int (zr10 0 6)) dX7_readLine_103 fl_X7_57 rfl rfl ?_
  refine v_if_ne (tgt := 114) dX7_readLine_106 (by decide) (fun zc12 => ?_) (fun zc12 => ?_)
  · have hd := g_f hd zc12
    exact v_M_readLine_114 w zr10 x1 hd
  · have hd := g_t hd zc12
    refine v_iload_n dX7_readLine_109 rfl ?_
    refine v_iconst dX7_readLine_110 ic_4 ?_
    refine v_icmp_ne (tgt := 118) dX7_readLine_111 (by decide) (fun zc25 => ?_) (fun zc25 => ?_)
    · have hd := g_f hd zc25
      refine v_iconst dX7_readLine_118 ic_0 ?_
      exact v_M_readLine_119 w zr10 x1 (0 : Int32) hd
    · have hd := g_t hd zc25
      exact v_M_readLine_114 w zr10 x1 hd

def d_M_readLine_92  (u : (Nat → Nat → Int32)) (x1 : Int32) : Option ((Nat → Nat → Int32)) := d_M_readLine_97 u x1 (1 : Int32)
set_option maxRecDepth 100000 in
set_option maxHeartbeats 4000000 in
theorem v_M_readLine_92 (w : Nat → Int64) {r : (Nat → Nat → Int32)}  (u : (Nat → Nat → Int32)) (x1 : Int32) (hd : d_M_readLine_92  u x1 = some r) : Vd RX7 "readLine" cX7_readLine 2 none (rm 5) (ab_eq none (h_M r w)) 0 0 0 0 92 [(0, .ref 0), (1, .int x1)] [.ref 0] (h_M u w) := by
  unfold d_M_readLine_92 at hd
  refine v_iconst dX7_readLine_92 ic_1 ?_
  refine v_goto (tgt := 97) dX7_readLine_93 (by decide) ?_
  exact v_M_readLine_97 w u x1 (1 : Int32) hd

def d_M_readLine_75  (u : (Nat → Nat → Int32)) (x1 : Int32) (s1 : Int32) : Option ((Nat → Nat → Int32)) := (d_M_needs u s1 (5 : Int32)).bind fun zr7 => if x1 = (4 : Int32) then (if (zr7 0 6) = 0 then (d_M_readLine_92 zr7 x1) else (d_M_readLine_97 zr7 x1 (0 : Int32))) else (d_M_readLine_92 zr7 x1)
set_option maxRecDepth 100000 in
set_option maxHeartbeats 4000000 in
theorem v_M_readLine_75 (w : Nat → Int64) {r : (Nat → Nat → Int32)}  (u : (Nat → Nat → Int32)) (x1 : Int32) (s1 : Int32) (hd : d_M_readLine_75  u x1 s1 = some r) : Vd RX7 "readLine" cX7_readLine 2 none (rm 5) (ab_eq none (h_M r w)) 0 0 0 0 75 [(0, .ref 0), (1, .int x1)] [.int s1, .ref 0] (h_M u w) := by
  unfold d_M_readLine_75 at hd
  refine v_iconst dX7_readLine_75 ic_5 ?_
  obtain ⟨zr7, zh8, hd⟩ := g_bind hd
  refine v_cI (dy := 0) (st := []) (st2 := []) dX7_readLine_76 mv_X7_117 (m_M_needs u s1 (5 : Int32) w zh8) rfl rfl rfl rfl rfl (by decide) (by decide) rfl rfl ?_
  refine v_aload_n dX7_readLine_79 rfl ?_
  refine v_iload_n dX7_readLine_80 rfl ?_
  refine v_iconst dX7_readLine_81 ic_4 ?_
  refine v_icmp_ne (tgt := 92) dX7_readLine_82 (by decide) (fun zc9 => ?_) (fun zc9 => ?_)
  · have hd := g_f hd zc9
    exact v_M_readLine_92 w zr7 x1 hd
  · have hd := g_t hd zc9
    refine v_aload_n dX7_readLine_85 rfl ?_
    refine v_get (v := .int (zr7 0 6)) dX7_readLine_86 fl_X7_57 rfl rfl ?_
    refine v_if_ne (tgt := 96) dX7_readLine_89 (by decide) (fun zc26 => ?_) (fun zc26 => ?_)
    · have hd := g_f hd zc26
      refine v_iconst dX7_readLine_96 ic_0 ?_
      exact v_M_readLine_97 w zr7 x1 (0 : Int32) hd
    · have hd := g_t hd zc26
      exact v_M_readLine_92 w zr7 x1 hd

def d_M_readLine_70  (u : (Nat → Nat → Int32)) (x1 : Int32) : Option ((Nat → Nat → Int32)) := d_M_readLine_75 u x1 (1 : Int32)
set_option maxRecDepth 100000 in
set_option maxHeartbeats 4000000 in
theorem v_M_readLine_70 (w : Nat → Int64) {r : (Nat → Nat → Int32)}  (u : (Nat → Nat → Int32)) (x1 : Int32) (hd : d_M_readLine_70  u x1 = some r) : Vd RX7 "readLine" cX7_readLine 2 none (rm 5) (ab_eq none (h_M r w)) 0 0 0 0 70 [(0, .ref 0), (1, .int x1)] [.ref 0] (h_M u w) := by
  unfold d_M_readLine_70 at hd
  refine v_iconst dX7_readLine_70 ic_1 ?_
  refine v_goto (tgt := 75) dX7_readLine_71 (by decide) ?_
  exact v_M_readLine_75 w u x1 (1 : Int32) hd

def d_M_readLine_30  (u : (Nat → Nat → Int32)) (x1 : Int32) (s1 : Int32) : Option ((Nat → Nat → Int32)) := (d_M_needs u s1 (2 : Int32)).bind fun zr3 => if x1 = (6 : Int32) then (if (4 : Int32) ≤ (zr3 0 7) then (d_M_readLine_75 zr3 x1 (0 : Int32)) else (d_M_readLine_75 zr3 x1 (1 : Int32))) else (if (4 : Int32) ≤ x1 then (d_M_readLine_70 zr3 x1) else (if (5 : Int32) ≤ (zr3 0 5) then (d_M_readLine_75 zr3 x1 (0 : Int32)) else (d_M_readLine_70 zr3 x1)))
set_option maxRecDepth 100000 in
set_option maxHeartbeats 4000000 in
theorem v_M_readLine_30 (w : Nat → Int64) {r : (Nat → Nat → Int32)}  (u : (Nat → Nat → Int32)) (x1 : Int32) (s1 : Int32) (hd : d_M_readLine_30  u x1 s1 = some r) : Vd RX7 "readLine" cX7_readLine 2 none (rm 5) (ab_eq none (h_M r w)) 0 0 0 0 30 [(0, .ref 0), (1, .int x1)] [.int s1, .ref 0] (h_M u w) := by
  unfold d_M_readLine_30 at hd
  refine v_iconst dX7_readLine_30 ic_2 ?_
  obtain ⟨zr3, zh4, hd⟩ := g_bind hd
  refine v_cI (dy := 0) (st := []) (st2 := []) dX7_readLine_31 mv_X7_117 (m_M_needs u s1 (2 : Int32) w zh4) rfl rfl rfl rfl rfl (by decide) (by decide) rfl rfl ?_
  refine v_aload_n dX7_readLine_34 rfl ?_
  refine v_iload_n dX7_readLine_35 rfl ?_
  refine v_bipush dX7_readLine_36 bp_6 ?_
  refine v_icmp_ne (tgt := 57) dX7_readLine_38 (by decide) (fun zc5 => ?_) (fun zc5 => ?_)
  · have hd := g_f hd zc5
    refine v_iload_n dX7_readLine_57 rfl ?_
    refine v_iconst dX7_readLine_58 ic_4 ?_
    refine v_icmp_ge (tgt := 70) dX7_readLine_59 (by decide) (fun zc6 => ?_) (fun zc6 => ?_)
    · have hd := g_t hd zc6
      exact v_M_readLine_70 w zr3 x1 hd
    · have hd := g_f hd zc6
      refine v_aload_n dX7_readLine_62 rfl ?_
      refine v_get (v := .int (zr3 0 5)) dX7_readLine_63 fl_X7_53 rfl rfl ?_
      refine v_iconst dX7_readLine_66 ic_5 ?_
      refine v_icmp_ge (tgt := 74) dX7_readLine_67 (by decide) (fun zc27 => ?_) (fun zc27 => ?_)
      · have hd := g_t hd zc27
        refine v_iconst dX7_readLine_74 ic_0 ?_
        exact v_M_readLine_75 w zr3 x1 (0 : Int32) hd
      · have hd := g_f hd zc27
        exact v_M_readLine_70 w zr3 x1 hd
  · have hd := g_t hd zc5
    refine v_aload_n dX7_readLine_41 rfl ?_
    refine v_get (v := .int (zr3 0 7)) dX7_readLine_42 fl_X7_61 rfl rfl ?_
    refine v_iconst dX7_readLine_45 ic_4 ?_
    refine v_icmp_ge (tgt := 53) dX7_readLine_46 (by decide) (fun zc28 => ?_) (fun zc28 => ?_)
    · have hd := g_t hd zc28
      refine v_iconst dX7_readLine_53 ic_0 ?_
      refine v_goto (tgt := 75) dX7_readLine_54 (by decide) ?_
      exact v_M_readLine_75 w zr3 x1 (0 : Int32) hd
    · have hd := g_f hd zc28
      refine v_iconst dX7_readLine_49 ic_1 ?_
      refine v_goto (tgt := 75) dX7_readLine_50 (by decide) ?_
      exact v_M_readLine_75 w zr3 x1 (1 : Int32) hd

def d_M_readLine_17  (u : (Nat → Nat → Int32)) (s0 : Int32) : Option ((Nat → Nat → Int32)) := if s0 = (-4 : Int32) then (d_M_readLine_30 u s0 (0 : Int32)) else (d_M_readLine_30 u s0 (1 : Int32))
set_option maxRecDepth 100000 in
set_option maxHeartbeats 4000000 in
theorem v_M_readLine_17 (w : Nat → Int64) {r : (Nat → Nat → Int32)}  (u : (Nat → Nat → Int32)) (s0 : Int32) (hd : d_M_readLine_17  u s0 = some r) : Vd RX7 "readLine" cX7_readLine 2 none (rm 5) (ab_eq none (h_M r w)) 0 0 0 0 17 [(0, .ref 0)] [.int s0] (h_M u w) := by
  unfold d_M_readLine_17 at hd
  refine v_istore_n (i := 1) (L2 := [(1, .int s0), (0, .ref 0)]) dX7_readLine_17 rfl (Nat.le_of_ble_eq_true rfl) rfl ?_
  refine v_aload_n dX7_readLine_18 rfl ?_
  refine v_iload_n dX7_readLine_19 rfl ?_
  refine v_bipush dX7_readLine_20 bp_m4 ?_
  refine v_icmp_eq (tgt := 29) dX7_readLine_22 (by decide) (fun zc2 => ?_) (fun zc2 => ?_)
  · have hd := g_t hd zc2
    refine v_iconst dX7_readLine_29 ic_0 ?_
    refine v_loc [1, 0] rfl ?_
    exact v_M_readLine_30 w u s0 (0 : Int32) hd
  · have hd := g_f hd zc2
    refine v_iconst dX7_readLine_25 ic_1 ?_
    refine v_goto (tgt := 30) dX7_readLine_26 (by decide) ?_
    refine v_loc [1, 0] rfl ?_
    exact v_M_readLine_30 w u s0 (1 : Int32) hd
def d_M_readLine (u : (Nat → Nat → Int32)) : Option ((Nat → Nat → Int32)) := if (u 0 14) = (1 : Int32) then ((d_M_lineNow u).bind fun zr29 => d_M_readLine_17 u zr29) else (d_M_readLine_17 u (-4 : Int32))
set_option maxRecDepth 100000 in
set_option maxHeartbeats 4000000 in
theorem v_M_readLine (u : (Nat → Nat → Int32)) (w : Nat → Int64) {r : (Nat → Nat → Int32)} (hd : d_M_readLine u = some r) : Vd RX7 "readLine" cX7_readLine 2 none (rm 5) (ab_eq none (h_M r w)) 0 0 0 0 0 [(0, .ref 0)] [] (h_M u w) := by
  unfold d_M_readLine at hd
  refine v_aload_n dX7_readLine_0 rfl ?_
  refine v_get (v := .int (u 0 14)) dX7_readLine_1 fl_X7_103 rfl rfl ?_
  refine v_iconst dX7_readLine_4 ic_1 ?_
  refine v_icmp_ne (tgt := 15) dX7_readLine_5 (by decide) (fun zc1 => ?_) (fun zc1 => ?_)
  · have hd := g_f hd zc1
    refine v_bipush dX7_readLine_15 bp_m4 ?_
    exact v_M_readLine_17 w u (-4 : Int32) hd
  · have hd := g_t hd zc1
    refine v_aload_n dX7_readLine_8 rfl ?_
    obtain ⟨zr29, zh30, hd⟩ := g_bind hd
    refine v_cI (dy := 2) (st := []) (st2 := [.int zr29]) dX7_readLine_9 mv_X7_138 (m_M_lineNow u w zh30) rfl rfl rfl rfl rfl (by decide) (by decide) rfl rfl ?_
    refine v_goto (tgt := 17) dX7_readLine_12 (by decide) ?_
    exact v_M_readLine_17 w u zr29 hd
theorem m_M_readLine (u : (Nat → Nat → Int32)) (w : Nat → Int64) {r : (Nat → Nat → Int32)} (hd : d_M_readLine u = some r) : Mt yX7_readLine cX7_readLine 2 none (rm 5) [.ref 0] (h_M u w) (ab_eq none (h_M r w)) := Mt.of (by decide +kernel) (fun _ _ _ => trivial) (Nat.le_of_ble_eq_true rfl) (v_M_readLine u w hd)

def d_M_offersCome_119 (k2 : (Nat → Nat → Int32) → Int32 → Option ((Nat → Nat → Int32))) (u : (Nat → Nat → Int32)) (x1 : Int32) (s1 : Int32) (s2 : Int32) : Option ((Nat → Nat → Int32)) := if gi s1 41 = true then dl (pw u 4 s1.toNatClampNeg s2) fun zu28 => dl (x1 + (1 : Int32)) fun zy30 => k2 zu28 zy30 else none
set_option maxRecDepth 100000 in
set_option maxHeartbeats 4000000 in
theorem v_M_offersCome_119 (w : Nat → Int64) {r : (Nat → Nat → Int32)} (k2 : (Nat → Nat → Int32) → Int32 → Option ((Nat → Nat → Int32))) (hk2 : ∀ (u : (Nat → Nat → Int32)) (x1 : Int32), k2 u x1 = some r → Vd RX7 "offersCome" cX7_offersCome 4 none (rm 1) (ab_eq none (h_M r w)) 0 0 0 0 2 [(0, .ref 0), (1, .int x1)] [] (h_M u w)) (u : (Nat → Nat → Int32)) (x1 : Int32) (s1 : Int32) (s2 : Int32) (hd : d_M_offersCome_119 k2 u x1 s1 s2 = some r) : Vd RX7 "offersCome" cX7_offersCome 4 none (rm 1) (ab_eq none (h_M r w)) 0 0 0 0 119 [(0, .ref 0), (1, .int x1)] [.int s2, .int s1, .ref 4] (h_M u w) := by
  unfold d_M_offersCome_119 at hd
  obtain ⟨zg27, hd⟩ := g_b hd
  refine v_ist (f := (u 4)) (h2 := (h_M (pw u 4 s1.toNatClampNeg s2) w)) dX7_offersCome_119 rfl (gi_in zg27) rfl ?_
  refine v_nmu (F := fun z => (h_M z w)) (e := (pw u 4 s1.toNatClampNeg s2)) (fun zu28 ze29 => ?_)
  have hd := dl_n hd zu28 ze29
  obtain ⟨zy30, ze31⟩ : ∃ z : Int32, z = (x1 + (1 : Int32)) := ⟨_, rfl⟩
  have hd := dl_n hd zy30 ze31
  refine v_iinc (v := zy30) (L2 := [(1, .int zy30), (0, .ref 0)]) dX7_offersCome_120 rfl (by rw [ic_1]; exact ze31.symm) (Nat.le_of_ble_eq_true rfl) rfl ?_
  refine v_goto (tgt := 2) dX7_offersCome_123 (by decide) ?_
  refine v_loc [1, 0] rfl ?_
  exact hk2 zu28 zy30 hd

def d_M_offersCome_48 (k2 : (Nat → Nat → Int32) → Int32 → Option ((Nat → Nat → Int32))) (u : (Nat → Nat → Int32)) (x1 : Int32) (x2 : Int32) (x3 : Int32) (s1 : Int32) : Option ((Nat → Nat → Int32)) := (d_M_needs u s1 (7 : Int32)).bind fun zr10 => if gi ((5 : Int32) + x2) 41 = true then if gi ((5 : Int32) + x2) 41 = true then dl (((zr10 4) ((5 : Int32) + x2).toNatClampNeg) - x3) fun zy14 => dl (pw zr10 4 ((5 : Int32) + x2).toNatClampNeg zy14) fun zu16 => if gi ((10 : Int32) + x2) 41 = true then if gi ((10 : Int32) + x2) 41 = true then dl (((zu16 4) ((10 : Int32) + x2).toNatClampNeg) + x3) fun zy20 => dl (pw zu16 4 ((10 : Int32) + x2).toNatClampNeg zy20) fun zu22 => dl (((zu22 4) (21 : Int32).toNatClampNeg) + x3) fun zy24 => if ((upd (zu22 4) (21 : Int32).toNatClampNeg zy24) (16 : Int32).toNatClampNeg) ≤ x3 then (d_M_offersCome_119 k2 (pw zu22 4 (21 : Int32).toNatClampNeg zy24) x1 (16 : Int32) (0 : Int32)) else (d_M_offersCome_119 k2 (pw zu22 4 (21 : Int32).toNatClampNeg zy24) x1 (16 : Int32) (((upd (zu22 4) (21 : Int32).toNatClampNeg zy24) (16 : Int32).toNatClampNeg) - x3)) else none else none else none else none
set_option maxRecDepth 100000 in
set_option maxHeartbeats 4000000 in
theorem v_M_offersCome_48 (w : Nat → Int64) {r : (Nat → Nat → Int32)} (k2 : (Nat → Nat → Int32) → Int32 → Option ((Nat → Nat → Int32))) (hk2 : ∀ (u : (Nat → Nat → Int32)) (x1 : Int32), k2 u x1 = some r → Vd RX7 "offersCome" cX7_offersCome 4 none (rm 1) (ab_eq none (h_M r w)) 0 0 0 0 2 [(0, .ref 0), (1, .int x1)] [] (h_M u w)) (u : (Nat → Nat → Int32)) (x1 : Int32) (x2 : Int32) (x3 : Int32) (s1 : Int32) (hd : d_M_offersCome_48 k2 u x1 x2 x3 s1 = some r) : Vd RX7 "offersCome" cX7_offersCome 4 none (rm 1) (ab_eq none (h_M r w)) 0 0 0 0 48 [(0, .ref 0), (1, .int x1), (2, .int x2), (3, .int x3)] [.int s1, .ref 0] (h_M u w) := by
  unfold d_M_offersCome_48 at hd
  refine v_bipush dX7_offersCome_48 bp_7 ?_
  obtain ⟨zr10, zh11, hd⟩ := g_bind hd
  refine v_cI (dy := 0) (st := []) (st2 := []) dX7_offersCome_50 mv_X7_117 (m_M_needs u s1 (7 : Int32) w zh11) rfl rfl rfl rfl rfl (by decide) (by decide) rfl rfl ?_
  refine v_aload_n dX7_offersCome_53 rfl ?_
  refine v_get (v := .ref 4) dX7_offersCome_54 fl_X7_20 rfl rfl ?_
  refine v_iconst dX7_offersCome_57 ic_5 ?_
  refine v_iload_n dX7_offersCome_58 rfl ?_
  refine v_iadd dX7_offersCome_59 ?_
  refine v_dup2 dX7_offersCome_60 rfl rfl ?_
  obtain ⟨zg12, hd⟩ := g_b hd
  refine v_iald (f := (zr10 4)) dX7_offersCome_61 rfl (gi_in zg12) ?_
  refine v_iload_n dX7_offersCome_62 rfl ?_
  refine v_isub dX7_offersCome_63 ?_
  obtain ⟨zg13, hd⟩ := g_b hd
  refine v_topi (fun zy14 ze15 => ?_)
  have hd := dl_n hd zy14 ze15
  refine v_ist (f := (zr10 4)) (h2 := (h_M (pw zr10 4 ((5 : Int32) + x2).toNatClampNeg zy14) w)) dX7_offersCome_64 rfl (gi_in zg13) rfl ?_
  refine v_nmu (F := fun z => (h_M z w)) (e := (pw zr10 4 ((5 : Int32) + x2).toNatClampNeg zy14)) (fun zu16 ze17 => ?_)
  have hd := dl_n hd zu16 ze17
  refine v_aload_n dX7_offersCome_65 rfl ?_
  refine v_get (v := .ref 4) dX7_offersCome_66 fl_X7_20 rfl rfl ?_
  refine v_bipush dX7_offersCome_69 bp_10 ?_
  refine v_iload_n dX7_offersCome_71 rfl ?_
  refine v_iadd dX7_offersCome_72 ?_
  refine v_dup2 dX7_offersCome_73 rfl rfl ?_
  obtain ⟨zg18, hd⟩ := g_b hd
  refine v_iald (f := (zu16 4)) dX7_offersCome_74 rfl (gi_in zg18) ?_
  refine v_iload_n dX7_offersCome_75 rfl ?_
  refine v_iadd dX7_offersCome_76 ?_
  obtain ⟨zg19, hd⟩ := g_b hd
  refine v_topi (fun zy20 ze21 => ?_)
  have hd := dl_n hd zy20 ze21
  refine v_ist (f := (zu16 4)) (h2 := (h_M (pw zu16 4 ((10 : Int32) + x2).toNatClampNeg zy20) w)) dX7_offersCome_77 rfl (gi_in zg19) rfl ?_
  refine v_nmu (F := fun z => (h_M z w)) (e := (pw zu16 4 ((10 : Int32) + x2).toNatClampNeg zy20)) (fun zu22 ze23 => ?_)
  have hd := dl_n hd zu22 ze23
  refine v_aload_n dX7_offersCome_78 rfl ?_
  refine v_get (v := .ref 4) dX7_offersCome_79 fl_X7_20 rfl rfl ?_
  refine v_bipush dX7_offersCome_82 bp_21 ?_
  refine v_dup2 dX7_offersCome_84 rfl rfl ?_
  refine v_iald (f := (zu22 4)) dX7_offersCome_85 rfl gl_21_41 ?_
  refine v_iload_n dX7_offersCome_86 rfl ?_
  refine v_iadd dX7_offersCome_87 ?_
  refine v_topi (fun zy24 ze25 => ?_)
  have hd := dl_n hd zy24 ze25
  refine v_ist (f := (zu22 4)) (h2 := (h_M (pw zu22 4 (21 : Int32).toNatClampNeg zy24) w)) dX7_offersCome_88 rfl gl_21_41 rfl ?_
  refine v_aload_n dX7_offersCome_89 rfl ?_
  refine v_get (v := .ref 4) dX7_offersCome_90 fl_X7_20 rfl rfl ?_
  refine v_bipush dX7_offersCome_93 bp_16 ?_
  refine v_aload_n dX7_offersCome_95 rfl ?_
  refine v_get (v := .ref 4) dX7_offersCome_96 fl_X7_20 rfl rfl ?_
  refine v_bipush dX7_offersCome_99 bp_16 ?_
  refine v_iald (f := (upd (zu22 4) (21 : Int32).toNatClampNeg zy24)) dX7_offersCome_101 rfl gl_16_41 ?_
  refine v_iload_n dX7_offersCome_102 rfl ?_
  refine v_icmp_le (tgt := 118) dX7_offersCome_103 (by decide) (fun zc26 => ?_) (fun zc26 => ?_)
  · have hd := g_t hd zc26
    refine v_iconst dX7_offersCome_118 ic_0 ?_
    refine v_loc [0, 1] rfl ?_
    exact v_M_offersCome_119 w k2 (hk2) (pw zu22 4 (21 : Int32).toNatClampNeg zy24) x1 (16 : Int32) (0 : Int32) hd
  · have hd := g_f hd zc26
    refine v_aload_n dX7_offersCome_106 rfl ?_
    refine v_get (v := .ref 4) dX7_offersCome_107 fl_X7_20 rfl rfl ?_
    refine v_bipush dX7_offersCome_110 bp_16 ?_
    refine v_iald (f := (upd (zu22 4) (21 : Int32).toNatClampNeg zy24)) dX7_offersCome_112 rfl gl_16_41 ?_
    refine v_iload_n dX7_offersCome_113 rfl ?_
    refine v_isub dX7_offersCome_114 ?_
    refine v_goto (tgt := 119) dX7_offersCome_115 (by decide) ?_
    refine v_loc [0, 1] rfl ?_
    exact v_M_offersCome_119 w k2 (hk2) (pw zu22 4 (21 : Int32).toNatClampNeg zy24) x1 (16 : Int32) (((upd (zu22 4) (21 : Int32).toNatClampNeg zy24) (16 : Int32).toNatClampNeg) - x3) hd

def d_M_offersCome_2  : Nat → (Nat → Nat → Int32) → Int32 → Option ((Nat → Nat → Int32))
  | 0, _, _ => none
  | f + 1, u, x1 => if (u 0 7) ≤ x1 then (some u) else (if gi ((2 : Int32) * x1) 8 = true then dl ((u 5) ((2 : Int32) * x1).toNatClampNeg) fun zy3 => if gi (((2 : Int32) * x1) + (1 : Int32)) 8 = true then dl ((u 5) (((2 : Int32) * x1) + (1 : Int32)).toNatClampNeg) fun zy6 => if gi ((5 : Int32) + zy3) 41 = true then if ((u 4) ((5 : Int32) + zy3).toNatClampNeg) < zy6 then (d_M_offersCome_48 (d_M_offersCome_2 f) u x1 zy3 zy6 (0 : Int32)) else (d_M_offersCome_48 (d_M_offersCome_2 f) u x1 zy3 zy6 (1 : Int32)) else none else none else none)
set_option maxRecDepth 100000 in
set_option maxHeartbeats 4000000 in
theorem v_M_offersCome_2 (w : Nat → Int64) {r : (Nat → Nat → Int32)}  : ∀ (f : Nat) (u : (Nat → Nat → Int32)) (x1 : Int32), d_M_offersCome_2  f u x1 = some r → Vd RX7 "offersCome" cX7_offersCome 4 none (rm 1) (ab_eq none (h_M r w)) 0 0 0 0 2 [(0, .ref 0), (1, .int x1)] [] (h_M u w) := by
  intro f
  induction f with
  | zero =>
    intro u x1 hd
    rw [d_M_offersCome_2] at hd
    cases hd
  | succ f ih =>
    intro u x1 hd
    rw [d_M_offersCome_2] at hd
    refine v_iload_n dX7_offersCome_2 rfl ?_
    refine v_aload_n dX7_offersCome_3 rfl ?_
    refine v_get (v := .int (u 0 7)) dX7_offersCome_4 fl_X7_61 rfl rfl ?_
    refine v_icmp_ge (tgt := 126) dX7_offersCome_7 (by decide) (fun zc1 => ?_) (fun zc1 => ?_)
    · have hd := g_t hd zc1
      obtain rfl := Option.some.inj hd
      exact v_vretE dX7_offersCome_126 rfl rfl rfl
    · have hd := g_f hd zc1
      refine v_aload_n dX7_offersCome_10 rfl ?_
      refine v_get (v := .ref 5) dX7_offersCome_11 fl_X7_23 rfl rfl ?_
      refine v_iconst dX7_offersCome_14 ic_2 ?_
      refine v_iload_n dX7_offersCome_15 rfl ?_
      refine v_imul dX7_offersCome_16 ?_
      obtain ⟨zg2, hd⟩ := g_b hd
      refine v_iald (f := (u 5)) dX7_offersCome_17 rfl (gi_in zg2) ?_
      refine v_topi (fun zy3 ze4 => ?_)
      have hd := dl_n hd zy3 ze4
      refine v_istore_n (i := 2) (L2 := [(2, .int zy3), (0, .ref 0), (1, .int x1)]) dX7_offersCome_18 rfl (Nat.le_of_ble_eq_true rfl) rfl ?_
      refine v_aload_n dX7_offersCome_19 rfl ?_
      refine v_get (v := .ref 5) dX7_offersCome_20 fl_X7_23 rfl rfl ?_
      refine v_iconst dX7_offersCome_23 ic_2 ?_
      refine v_iload_n dX7_offersCome_24 rfl ?_
      refine v_imul dX7_offersCome_25 ?_
      refine v_iconst dX7_offersCome_26 ic_1 ?_
      refine v_iadd dX7_offersCome_27 ?_
      obtain ⟨zg5, hd⟩ := g_b hd
      refine v_iald (f := (u 5)) dX7_offersCome_28 rfl (gi_in zg5) ?_
      refine v_topi (fun zy6 ze7 => ?_)
      have hd := dl_n hd zy6 ze7
      refine v_istore_n (i := 3) (L2 := [(3, .int zy6), (2, .int zy3), (0, .ref 0), (1, .int x1)]) dX7_offersCome_29 rfl (Nat.le_of_ble_eq_true rfl) rfl ?_
      refine v_aload_n dX7_offersCome_30 rfl ?_
      refine v_aload_n dX7_offersCome_31 rfl ?_
      refine v_get (v := .ref 4) dX7_offersCome_32 fl_X7_20 rfl rfl ?_
      refine v_iconst dX7_offersCome_35 ic_5 ?_
      refine v_iload_n dX7_offersCome_36 rfl ?_
      refine v_iadd dX7_offersCome_37 ?_
      obtain ⟨zg8, hd⟩ := g_b hd
      refine v_iald (f := (u 4)) dX7_offersCome_38 rfl (gi_in zg8) ?_
      refine v_iload_n dX7_offersCome_39 rfl ?_
      refine v_icmp_lt (tgt := 47) dX7_offersCome_40 (by decide) (fun zc9 => ?_) (fun zc9 => ?_)
      · have hd := g_t hd zc9
        refine v_iconst dX7_offersCome_47 ic_0 ?_
        refine v_loc [2, 3, 1, 0] rfl ?_
        exact v_M_offersCome_48 w (d_M_offersCome_2 f) (ih) u x1 zy3 zy6 (0 : Int32) hd
      · have hd := g_f hd zc9
        refine v_iconst dX7_offersCome_43 ic_1 ?_
        refine v_goto (tgt := 48) dX7_offersCome_44 (by decide) ?_
        refine v_loc [2, 3, 1, 0] rfl ?_
        exact v_M_offersCome_48 w (d_M_offersCome_2 f) (ih) u x1 zy3 zy6 (1 : Int32) hd
def d_M_offersCome (u : (Nat → Nat → Int32)) : Option ((Nat → Nat → Int32)) := d_M_offersCome_2 FU u (0 : Int32)
set_option maxRecDepth 100000 in
set_option maxHeartbeats 4000000 in
theorem v_M_offersCome (u : (Nat → Nat → Int32)) (w : Nat → Int64) {r : (Nat → Nat → Int32)} (hd : d_M_offersCome u = some r) : Vd RX7 "offersCome" cX7_offersCome 4 none (rm 1) (ab_eq none (h_M r w)) 0 0 0 0 0 [(0, .ref 0)] [] (h_M u w) := by
  unfold d_M_offersCome at hd
  refine v_iconst dX7_offersCome_0 ic_0 ?_
  refine v_istore_n (i := 1) (L2 := [(1, .int (0 : Int32)), (0, .ref 0)]) dX7_offersCome_1 rfl (Nat.le_of_ble_eq_true rfl) rfl ?_
  refine v_loc [1, 0] rfl ?_
  exact v_M_offersCome_2 w FU u (0 : Int32) hd
theorem m_M_offersCome (u : (Nat → Nat → Int32)) (w : Nat → Int64) {r : (Nat → Nat → Int32)} (hd : d_M_offersCome u = some r) : Mt yX7_offersCome cX7_offersCome 4 none (rm 1) [.ref 0] (h_M u w) (ab_eq none (h_M r w)) := Mt.of (by decide +kernel) (fun _ _ _ => trivial) (Nat.le_of_ble_eq_true rfl) (v_M_offersCome u w hd)

def d_M_text_84  (u : (Nat → Nat → Int32)) (x1 : Int32) : Option (Int32 × (Nat → Nat → Int32)) := if (u 0 16) ≤ 0 then ((d_M_keepDraft (pw u 0 11 (0 : Int32))).bind fun zr9 => some (x1, zr9)) else (some (((-10 : Int32) - (u 0 17)), (pw u 0 11 (0 : Int32))))
set_option maxRecDepth 100000 in
set_option maxHeartbeats 4000000 in
theorem v_M_text_84 (w : Nat → Int64) {r : Int32 × (Nat → Nat → Int32)}  (u : (Nat → Nat → Int32)) (x1 : Int32) (hd : d_M_text_84  u x1 = some r) : Vd RX7 "text" cX7_text 2 (some .int) (rm 6) (ab_eq (some (.int r.1)) (h_M r.2 w)) 0 0 0 0 84 [(0, .ref 0), (1, .int x1)] [] (h_M u w) := by
  unfold d_M_text_84 at hd
  refine v_aload_n dX7_text_84 rfl ?_
  refine v_iconst dX7_text_85 ic_0 ?_
  refine v_pti (h2 := (h_M (pw u 0 11 (0 : Int32)) w)) dX7_text_86 fl_X7_76 rfl (Nat.le_of_ble_eq_true rfl) rfl ?_
  refine v_aload_n dX7_text_89 rfl ?_
  refine v_get (v := .int (u 0 16)) dX7_text_90 fl_X7_79 rfl rfl ?_
  refine v_if_le (tgt := 104) dX7_text_93 (by decide) (fun zc8 => ?_) (fun zc8 => ?_)
  · have hd := g_t hd zc8
    refine v_aload_n dX7_text_104 rfl ?_
    obtain ⟨zr9, zh10, hd⟩ := g_bind hd
    refine v_cI (dy := 0) (st := []) (st2 := []) dX7_text_105 mv_X7_50 (m_M_keepDraft (pw u 0 11 (0 : Int32)) w zh10) rfl rfl rfl rfl rfl (by decide) (by decide) rfl rfl ?_
    refine v_iload_n dX7_text_108 rfl ?_
    obtain rfl := Option.some.inj hd
    exact v_iretE dX7_text_109 rfl rfl rfl rfl
  · have hd := g_f hd zc8
    refine v_bipush dX7_text_96 bp_m10 ?_
    refine v_aload_n dX7_text_98 rfl ?_
    refine v_get (v := .int (u 0 17)) dX7_text_99 fl_X7_85 rfl rfl ?_
    refine v_isub dX7_text_102 ?_
    obtain rfl := Option.some.inj hd
    exact v_iretE dX7_text_103 rfl rfl rfl rfl

def d_M_text_73  (u : (Nat → Nat → Int32)) (x1 : Int32) : Option (Int32 × (Nat → Nat → Int32)) := if (u 0 16) = 0 then ((d_M_offersCome u).bind fun zr11 => d_M_text_84 zr11 x1) else (d_M_text_84 u x1)
set_option maxRecDepth 100000 in
set_option maxHeartbeats 4000000 in
theorem v_M_text_73 (w : Nat → Int64) {r : Int32 × (Nat → Nat → Int32)}  (u : (Nat → Nat → Int32)) (x1 : Int32) (hd : d_M_text_73  u x1 = some r) : Vd RX7 "text" cX7_text 2 (some .int) (rm 6) (ab_eq (some (.int r.1)) (h_M r.2 w)) 0 0 0 0 73 [(0, .ref 0), (1, .int x1)] [] (h_M u w) := by
  unfold d_M_text_73 at hd
  refine v_aload_n dX7_text_73 rfl ?_
  refine v_get (v := .int (u 0 16)) dX7_text_74 fl_X7_79 rfl rfl ?_
  refine v_if_ne (tgt := 84) dX7_text_77 (by decide) (fun zc7 => ?_) (fun zc7 => ?_)
  · have hd := g_f hd zc7
    exact v_M_text_84 w u x1 hd
  · have hd := g_t hd zc7
    refine v_aload_n dX7_text_80 rfl ?_
    obtain ⟨zr11, zh12, hd⟩ := g_bind hd
    refine v_cI (dy := 1) (st := []) (st2 := []) dX7_text_81 mv_X7_148 (m_M_offersCome u w zh12) rfl rfl rfl rfl rfl (by decide) (by decide) rfl rfl ?_
    exact v_M_text_84 w zr11 x1 hd

def d_M_text_68  (u : (Nat → Nat → Int32)) (x1 : Int32) (s1 : Int32) : Option (Int32 × (Nat → Nat → Int32)) := (d_M_needs u s1 (6 : Int32)).bind fun zr14 => d_M_text_73 zr14 x1
set_option maxRecDepth 100000 in
set_option maxHeartbeats 4000000 in
theorem v_M_text_68 (w : Nat → Int64) {r : Int32 × (Nat → Nat → Int32)}  (u : (Nat → Nat → Int32)) (x1 : Int32) (s1 : Int32) (hd : d_M_text_68  u x1 s1 = some r) : Vd RX7 "text" cX7_text 2 (some .int) (rm 6) (ab_eq (some (.int r.1)) (h_M r.2 w)) 0 0 0 0 68 [(0, .ref 0), (1, .int x1)] [.int s1, .ref 0] (h_M u w) := by
  unfold d_M_text_68 at hd
  refine v_bipush dX7_text_68 bp_6 ?_
  obtain ⟨zr14, zh15, hd⟩ := g_bind hd
  refine v_cI (dy := 0) (st := []) (st2 := []) dX7_text_70 mv_X7_117 (m_M_needs u s1 (6 : Int32) w zh15) rfl rfl rfl rfl rfl (by decide) (by decide) rfl rfl ?_
  exact v_M_text_73 w zr14 x1 hd

def d_M_text_44  (u : (Nat → Nat → Int32)) (x1 : Int32) : Option (Int32 × (Nat → Nat → Int32)) := if (u 0 16) = 0 then (if (u 0 5) ≤ (u 0 9) then (d_M_text_68 u x1 (0 : Int32)) else (d_M_text_68 u x1 (1 : Int32))) else (d_M_text_73 u x1)
set_option maxRecDepth 100000 in
set_option maxHeartbeats 4000000 in
theorem v_M_text_44 (w : Nat → Int64) {r : Int32 × (Nat → Nat → Int32)}  (u : (Nat → Nat → Int32)) (x1 : Int32) (hd : d_M_text_44  u x1 = some r) : Vd RX7 "text" cX7_text 2 (some .int) (rm 6) (ab_eq (some (.int r.1)) (h_M r.2 w)) 0 0 0 0 44 [(0, .ref 0), (1, .int x1)] [] (h_M u w) := by
  unfold d_M_text_44 at hd
  refine v_aload_n dX7_text_44 rfl ?_
  refine v_get (v := .int (u 0 16)) dX7_text_45 fl_X7_79 rfl rfl ?_
  refine v_if_ne (tgt := 73) dX7_text_48 (by decide) (fun zc6 => ?_) (fun zc6 => ?_)
  · have hd := g_f hd zc6
    exact v_M_text_73 w u x1 hd
  · have hd := g_t hd zc6
    refine v_aload_n dX7_text_51 rfl ?_
    refine v_aload_n dX7_text_52 rfl ?_
    refine v_get (v := .int (u 0 9)) dX7_text_53 fl_X7_64 rfl rfl ?_
    refine v_aload_n dX7_text_56 rfl ?_
    refine v_get (v := .int (u 0 5)) dX7_text_57 fl_X7_53 rfl rfl ?_
    refine v_icmp_ge (tgt := 67) dX7_text_60 (by decide) (fun zc13 => ?_) (fun zc13 => ?_)
    · have hd := g_t hd zc13
      refine v_iconst dX7_text_67 ic_0 ?_
      exact v_M_text_68 w u x1 (0 : Int32) hd
    · have hd := g_f hd zc13
      refine v_iconst dX7_text_63 ic_1 ?_
      refine v_goto (tgt := 68) dX7_text_64 (by decide) ?_
      exact v_M_text_68 w u x1 (1 : Int32) hd

def d_M_text_20  : Nat → (Nat → Nat → Int32) → Int32 → Option (Int32 × (Nat → Nat → Int32))
  | 0, _, _ => none
  | f + 1, u, x1 => if (u 0 16) = 0 then (if (u 0 14) = 0 then (d_M_text_44 u x1) else ((d_M_readLine u).bind fun zr17 => dl (x1 + (1 : Int32)) fun zy19 => d_M_text_20 f zr17 zy19)) else (d_M_text_44 u x1)
set_option maxRecDepth 100000 in
set_option maxHeartbeats 4000000 in
theorem v_M_text_20 (w : Nat → Int64) {r : Int32 × (Nat → Nat → Int32)}  : ∀ (f : Nat) (u : (Nat → Nat → Int32)) (x1 : Int32), d_M_text_20  f u x1 = some r → Vd RX7 "text" cX7_text 2 (some .int) (rm 6) (ab_eq (some (.int r.1)) (h_M r.2 w)) 0 0 0 0 20 [(0, .ref 0), (1, .int x1)] [] (h_M u w) := by
  intro f
  induction f with
  | zero =>
    intro u x1 hd
    rw [d_M_text_20] at hd
    cases hd
  | succ f ih =>
    intro u x1 hd
    rw [d_M_text_20] at hd
    refine v_aload_n dX7_text_20 rfl ?_
    refine v_get (v := .int (u 0 16)) dX7_text_21 fl_X7_79 rfl rfl ?_
    refine v_if_ne (tgt := 44) dX7_text_24 (by decide) (fun zc5 => ?_) (fun zc5 => ?_)
    · have hd := g_f hd zc5
      exact v_M_text_44 w u x1 hd
    · have hd := g_t hd zc5
      refine v_aload_n dX7_text_27 rfl ?_
      refine v_get (v := .int (u 0 14)) dX7_text_28 fl_X7_103 rfl rfl ?_
      refine v_if_eq (tgt := 44) dX7_text_31 (by decide) (fun zc16 => ?_) (fun zc16 => ?_)
      · have hd := g_t hd zc16
        exact v_M_text_44 w u x1 hd
      · have hd := g_f hd zc16
        refine v_aload_n dX7_text_34 rfl ?_
        obtain ⟨zr17, zh18, hd⟩ := g_bind hd
        refine v_cI (dy := 5) (st := []) (st2 := []) dX7_text_35 mv_X7_145 (m_M_readLine u w zh18) rfl rfl rfl rfl rfl (by decide) (by decide) rfl rfl ?_
        obtain ⟨zy19, ze20⟩ : ∃ z : Int32, z = (x1 + (1 : Int32)) := ⟨_, rfl⟩
        have hd := dl_n hd zy19 ze20
        refine v_iinc (v := zy19) (L2 := [(1, .int zy19), (0, .ref 0)]) dX7_text_38 rfl (by rw [ic_1]; exact ze20.symm) (Nat.le_of_ble_eq_true rfl) rfl ?_
        refine v_goto (tgt := 20) dX7_text_41 (by decide) ?_
        refine v_loc [1, 0] rfl ?_
        exact ih zr17 zy19 hd
def d_M_text (u : (Nat → Nat → Int32)) : Option (Int32 × (Nat → Nat → Int32)) := (d_M_firstDraft (pw (pw u 0 16 (0 : Int32)) 0 12 (0 : Int32))).bind fun zr1 => (d_M_next zr1).bind fun zr3 => d_M_text_20 FU zr3 (0 : Int32)
set_option maxRecDepth 100000 in
set_option maxHeartbeats 4000000 in
theorem v_M_text (u : (Nat → Nat → Int32)) (w : Nat → Int64) {r : Int32 × (Nat → Nat → Int32)} (hd : d_M_text u = some r) : Vd RX7 "text" cX7_text 2 (some .int) (rm 6) (ab_eq (some (.int r.1)) (h_M r.2 w)) 0 0 0 0 0 [(0, .ref 0)] [] (h_M u w) := by
  unfold d_M_text at hd
  refine v_iconst dX7_text_0 ic_0 ?_
  refine v_istore_n (i := 1) (L2 := [(1, .int (0 : Int32)), (0, .ref 0)]) dX7_text_1 rfl (Nat.le_of_ble_eq_true rfl) rfl ?_
  refine v_aload_n dX7_text_2 rfl ?_
  refine v_iconst dX7_text_3 ic_0 ?_
  refine v_pti (h2 := (h_M (pw u 0 16 (0 : Int32)) w)) dX7_text_4 fl_X7_79 rfl (Nat.le_of_ble_eq_true rfl) rfl ?_
  refine v_aload_n dX7_text_7 rfl ?_
  refine v_iconst dX7_text_8 ic_0 ?_
  refine v_pti (h2 := (h_M (pw (pw u 0 16 (0 : Int32)) 0 12 (0 : Int32)) w)) dX7_text_9 fl_X7_88 rfl (Nat.le_of_ble_eq_true rfl) rfl ?_
  refine v_aload_n dX7_text_12 rfl ?_
  obtain ⟨zr1, zh2, hd⟩ := g_bind hd
  refine v_cI (dy := 0) (st := []) (st2 := []) dX7_text_13 mv_X7_47 (m_M_firstDraft (pw (pw u 0 16 (0 : Int32)) 0 12 (0 : Int32)) w zh2) rfl rfl rfl rfl rfl (by decide) (by decide) rfl rfl ?_
  refine v_aload_n dX7_text_16 rfl ?_
  obtain ⟨zr3, zh4, hd⟩ := g_bind hd
  refine v_cI (dy := 1) (st := []) (st2 := []) dX7_text_17 mv_X7_125 (m_M_next zr1 w zh4) rfl rfl rfl rfl rfl (by decide) (by decide) rfl rfl ?_
  refine v_loc [1, 0] rfl ?_
  exact v_M_text_20 w FU zr3 (0 : Int32) hd
theorem m_M_text (u : (Nat → Nat → Int32)) (w : Nat → Int64) {r : Int32 × (Nat → Nat → Int32)} (hd : d_M_text u = some r) : Mt yX7_text cX7_text 2 (some .int) (rm 6) [.ref 0] (h_M u w) (ab_eq (some (.int r.1)) (h_M r.2 w)) := Mt.of (by decide +kernel) (fun _ _ _ => trivial) (Nat.le_of_ble_eq_true rfl) (v_M_text u w hd)
def d_M_fault (u : (Nat → Nat → Int32)) : Option Int32 := some (u 0 16)
set_option maxRecDepth 100000 in
set_option maxHeartbeats 4000000 in
theorem v_M_fault (u : (Nat → Nat → Int32)) (w : Nat → Int64) {r : Int32} (hd : d_M_fault u = some r) : Vd RX7 "fault" cX7_fault 1 (some .int) (rm 0) (ab_eq (some (.int r)) (h_M u w)) 0 0 0 0 0 [(0, .ref 0)] [] (h_M u w) := by
  unfold d_M_fault at hd
  refine v_aload_n dX7_fault_0 rfl ?_
  refine v_get (v := .int (u 0 16)) dX7_fault_1 fl_X7_79 rfl rfl ?_
  obtain rfl := Option.some.inj hd
  exact v_iretE dX7_fault_4 rfl rfl rfl rfl
theorem m_M_fault (u : (Nat → Nat → Int32)) (w : Nat → Int64) {r : Int32} (hd : d_M_fault u = some r) : Mt yX7_fault cX7_fault 1 (some .int) (rm 0) [.ref 0] (h_M u w) (ab_eq (some (.int r)) (h_M u w)) := Mt.of (by decide +kernel) (fun _ _ _ => trivial) (Nat.le_of_ble_eq_true rfl) (v_M_fault u w hd)
def d_M_isHouse (u : (Nat → Nat → Int32)) (a1 : Int32) : Option Int32 := (d_P_in a1.toInt64 (0 : Int64) (((u 0 3) - (1 : Int32)).toInt64)).bind fun zr1 => if zr1 = 0 ∨ zr1 = 1 then some zr1 else none
set_option maxRecDepth 100000 in
set_option maxHeartbeats 4000000 in
theorem v_M_isHouse (u : (Nat → Nat → Int32)) (a1 : Int32) (w : Nat → Int64) {r : Int32} (hd : d_M_isHouse u a1 = some r) : Vd RX7 "isHouse" cX7_isHouse 2 (some .boolean) (rm 1) (ab_eq (some (.int r)) (h_M u w)) 0 0 0 0 0 [(0, .ref 0), (1, .int a1)] [] (h_M u w) := by
  unfold d_M_isHouse at hd
  refine v_iload_n dX7_isHouse_0 rfl ?_
  refine v_i2l dX7_isHouse_1 ?_
  refine v_lconst (v := 0) dX7_isHouse_2 rfl ?_
  refine v_aload_n dX7_isHouse_3 rfl ?_
  refine v_get (v := .int (u 0 3)) dX7_isHouse_4 fl_X7_67 rfl rfl ?_
  refine v_iconst dX7_isHouse_7 ic_1 ?_
  refine v_isub dX7_isHouse_8 ?_
  refine v_i2l dX7_isHouse_9 ?_
  obtain ⟨zr1, zh2, hd⟩ := g_bind hd
  refine v_cS (dy := 0) (st := []) (st2 := [.int zr1]) (h2 := (h_M u w)) [] dX7_isHouse_10 mz_X7_72 (m_P_in a1.toInt64 (0 : Int64) (((u 0 3) - (1 : Int32)).toInt64) zh2) rfl rfl rfl rfl rfl rfl (by decide) (by decide) rfl rfl rfl ?_
  obtain ⟨zg3, hd⟩ := g_b hd
  obtain rfl := Option.some.inj hd
  exact v_iretE dX7_isHouse_13 rfl (by rcases zg3 with zg3 | zg3 <;> rw [zg3] <;> rfl) rfl rfl
theorem m_M_isHouse (u : (Nat → Nat → Int32)) (a1 : Int32) (w : Nat → Int64) {r : Int32} (hd : d_M_isHouse u a1 = some r) : Mt yX7_isHouse cX7_isHouse 2 (some .boolean) (rm 1) [.ref 0, .int a1] (h_M u w) (ab_eq (some (.int r)) (h_M u w)) := Mt.of (by decide +kernel) (fun _ _ _ => trivial) (Nat.le_of_ble_eq_true rfl) (v_M_isHouse u a1 w hd)

def d_M_starts_2  : Nat → (Nat → Nat → Int32) → Int32 → Option ((Nat → Nat → Int32))
  | 0, _, _ => none
  | f + 1, u, x1 => if (41 : Int32) ≤ x1 then (some u) else (if gi x1 123 = true then if gi x1 41 = true then dl ((u 1) x1.toNatClampNeg) fun zy4 => dl (pw u 2 x1.toNatClampNeg zy4) fun zu6 => dl (x1 + (1 : Int32)) fun zy8 => d_M_starts_2 f zu6 zy8 else none else none)
set_option maxRecDepth 100000 in
set_option maxHeartbeats 4000000 in
theorem v_M_starts_2 (w : Nat → Int64) {r : (Nat → Nat → Int32)}  : ∀ (f : Nat) (u : (Nat → Nat → Int32)) (x1 : Int32), d_M_starts_2  f u x1 = some r → Vd RX7 "starts" cX7_starts 2 none (rm 0) (ab_eq none (h_M r w)) 0 0 0 0 2 [(0, .ref 0), (1, .int x1)] [] (h_M u w) := by
  intro f
  induction f with
  | zero =>
    intro u x1 hd
    rw [d_M_starts_2] at hd
    cases hd
  | succ f ih =>
    intro u x1 hd
    rw [d_M_starts_2] at hd
    refine v_iload_n dX7_starts_2 rfl ?_
    refine v_bipush dX7_starts_3 bp_41 ?_
    refine v_icmp_ge (tgt := 26) dX7_starts_5 (by decide) (fun zc1 => ?_) (fun zc1 => ?_)
    · have hd := g_t hd zc1
      obtain rfl := Option.some.inj hd
      exact v_vretE dX7_starts_26 rfl rfl rfl
    · have hd := g_f hd zc1
      refine v_aload_n dX7_starts_8 rfl ?_
      refine v_get (v := .ref 2) dX7_starts_9 fl_X7_13 rfl rfl ?_
      refine v_iload_n dX7_starts_12 rfl ?_
      refine v_aload_n dX7_starts_13 rfl ?_
      refine v_get (v := .ref 1) dX7_starts_14 fl_X7_7 rfl rfl ?_
      refine v_iload_n dX7_starts_17 rfl ?_
      obtain ⟨zg2, hd⟩ := g_b hd
      refine v_iald (f := (u 1)) dX7_starts_18 rfl (gi_in zg2) ?_
      obtain ⟨zg3, hd⟩ := g_b hd
      refine v_topi (fun zy4 ze5 => ?_)
      have hd := dl_n hd zy4 ze5
      refine v_ist (f := (u 2)) (h2 := (h_M (pw u 2 x1.toNatClampNeg zy4) w)) dX7_starts_19 rfl (gi_in zg3) rfl ?_
      refine v_nmu (F := fun z => (h_M z w)) (e := (pw u 2 x1.toNatClampNeg zy4)) (fun zu6 ze7 => ?_)
      have hd := dl_n hd zu6 ze7
      obtain ⟨zy8, ze9⟩ : ∃ z : Int32, z = (x1 + (1 : Int32)) := ⟨_, rfl⟩
      have hd := dl_n hd zy8 ze9
      refine v_iinc (v := zy8) (L2 := [(1, .int zy8), (0, .ref 0)]) dX7_starts_20 rfl (by rw [ic_1]; exact ze9.symm) (Nat.le_of_ble_eq_true rfl) rfl ?_
      refine v_goto (tgt := 2) dX7_starts_23 (by decide) ?_
      refine v_loc [1, 0] rfl ?_
      exact ih zu6 zy8 hd
def d_M_starts (u : (Nat → Nat → Int32)) : Option ((Nat → Nat → Int32)) := d_M_starts_2 FU u (0 : Int32)
set_option maxRecDepth 100000 in
set_option maxHeartbeats 4000000 in
theorem v_M_starts (u : (Nat → Nat → Int32)) (w : Nat → Int64) {r : (Nat → Nat → Int32)} (hd : d_M_starts u = some r) : Vd RX7 "starts" cX7_starts 2 none (rm 0) (ab_eq none (h_M r w)) 0 0 0 0 0 [(0, .ref 0)] [] (h_M u w) := by
  unfold d_M_starts at hd
  refine v_iconst dX7_starts_0 ic_0 ?_
  refine v_istore_n (i := 1) (L2 := [(1, .int (0 : Int32)), (0, .ref 0)]) dX7_starts_1 rfl (Nat.le_of_ble_eq_true rfl) rfl ?_
  refine v_loc [1, 0] rfl ?_
  exact v_M_starts_2 w FU u (0 : Int32) hd
theorem m_M_starts (u : (Nat → Nat → Int32)) (w : Nat → Int64) {r : (Nat → Nat → Int32)} (hd : d_M_starts u = some r) : Mt yX7_starts cX7_starts 2 none (rm 0) [.ref 0] (h_M u w) (ab_eq none (h_M r w)) := Mt.of (by decide +kernel) (fun _ _ _ => trivial) (Nat.le_of_ble_eq_true rfl) (v_M_starts u w hd)
