def d_C_clear (u : (Nat → Nat → Int32)) : Option ((Nat → Nat → Int32)) := some (pw (pw (pw (pw (pw (pw (pw (pw u 0 4 (0 : Int32)) 0 5 (0 : Int32)) 0 6 (3 : Int32)) 0 7 (0 : Int32)) 0 8 (0 : Int32)) 0 9 (0 : Int32)) 0 10 (0 : Int32)) 0 11 (0 : Int32))
set_option maxRecDepth 100000 in
set_option maxHeartbeats 4000000 in
theorem v_C_clear (u : (Nat → Nat → Int32)) {r : (Nat → Nat → Int32)} (hd : d_C_clear u = some r) : Vd RX0 "clear" cX0_clear 1 none (rm 0) (ab_eq none (h_C r)) 0 0 0 0 0 [(0, .ref 0)] [] (h_C u) := by
  unfold d_C_clear at hd
  refine v_aload_n dX0_clear_0 rfl ?_
  refine v_iconst dX0_clear_1 ic_0 ?_
  refine v_pti (h2 := (h_C (pw u 0 4 (0 : Int32)))) dX0_clear_2 fl_X0_28 rfl (Nat.le_of_ble_eq_true rfl) rfl ?_
  refine v_aload_n dX0_clear_5 rfl ?_
  refine v_iconst dX0_clear_6 ic_0 ?_
  refine v_pti (h2 := (h_C (pw (pw u 0 4 (0 : Int32)) 0 5 (0 : Int32)))) dX0_clear_7 fl_X0_31 rfl (Nat.le_of_ble_eq_true rfl) rfl ?_
  refine v_aload_n dX0_clear_10 rfl ?_
  refine v_iconst dX0_clear_11 ic_3 ?_
  refine v_pti (h2 := (h_C (pw (pw (pw u 0 4 (0 : Int32)) 0 5 (0 : Int32)) 0 6 (3 : Int32)))) dX0_clear_12 fl_X0_24 rfl (Nat.le_of_ble_eq_true rfl) rfl ?_
  refine v_aload_n dX0_clear_15 rfl ?_
  refine v_iconst dX0_clear_16 ic_0 ?_
  refine v_pti (h2 := (h_C (pw (pw (pw (pw u 0 4 (0 : Int32)) 0 5 (0 : Int32)) 0 6 (3 : Int32)) 0 7 (0 : Int32)))) dX0_clear_17 fl_X0_34 rfl (Nat.le_of_ble_eq_true rfl) rfl ?_
  refine v_aload_n dX0_clear_20 rfl ?_
  refine v_iconst dX0_clear_21 ic_0 ?_
  refine v_pti (h2 := (h_C (pw (pw (pw (pw (pw u 0 4 (0 : Int32)) 0 5 (0 : Int32)) 0 6 (3 : Int32)) 0 7 (0 : Int32)) 0 8 (0 : Int32)))) dX0_clear_22 fl_X0_37 rfl (Nat.le_of_ble_eq_true rfl) rfl ?_
  refine v_aload_n dX0_clear_25 rfl ?_
  refine v_iconst dX0_clear_26 ic_0 ?_
  refine v_pti (h2 := (h_C (pw (pw (pw (pw (pw (pw u 0 4 (0 : Int32)) 0 5 (0 : Int32)) 0 6 (3 : Int32)) 0 7 (0 : Int32)) 0 8 (0 : Int32)) 0 9 (0 : Int32)))) dX0_clear_27 fl_X0_40 rfl (Nat.le_of_ble_eq_true rfl) rfl ?_
  refine v_aload_n dX0_clear_30 rfl ?_
  refine v_iconst dX0_clear_31 ic_0 ?_
  refine v_pti (h2 := (h_C (pw (pw (pw (pw (pw (pw (pw u 0 4 (0 : Int32)) 0 5 (0 : Int32)) 0 6 (3 : Int32)) 0 7 (0 : Int32)) 0 8 (0 : Int32)) 0 9 (0 : Int32)) 0 10 (0 : Int32)))) dX0_clear_32 fl_X0_43 rfl (Nat.le_of_ble_eq_true rfl) rfl ?_
  refine v_aload_n dX0_clear_35 rfl ?_
  refine v_iconst dX0_clear_36 ic_0 ?_
  refine v_pti (h2 := (h_C (pw (pw (pw (pw (pw (pw (pw (pw u 0 4 (0 : Int32)) 0 5 (0 : Int32)) 0 6 (3 : Int32)) 0 7 (0 : Int32)) 0 8 (0 : Int32)) 0 9 (0 : Int32)) 0 10 (0 : Int32)) 0 11 (0 : Int32)))) dX0_clear_37 fl_X0_46 rfl (Nat.le_of_ble_eq_true rfl) rfl ?_
  obtain rfl := Option.some.inj hd
  exact v_vretE dX0_clear_40 rfl rfl rfl
theorem m_C_clear (u : (Nat → Nat → Int32)) {r : (Nat → Nat → Int32)} (hd : d_C_clear u = some r) : Mt yX0_clear cX0_clear 1 none (rm 0) [.ref 0] (h_C u) (ab_eq none (h_C r)) := Mt.of (by decide +kernel) (fun _ _ _ => trivial) (Nat.le_of_ble_eq_true rfl) (v_C_clear u hd)
def d_CC_becomeLike (u : (Nat → Nat → Int32)) : Option ((Nat → Nat → Int32)) := dl (u 5 4) fun zy1 => dl (u 5 5) fun zy3 => dl (u 5 6) fun zy5 => dl (u 5 7) fun zy7 => dl (u 5 8) fun zy9 => dl (u 5 9) fun zy11 => dl (u 5 10) fun zy13 => dl (u 5 11) fun zy15 => some (pw (pw (pw (pw (pw (pw (pw (pw (pr (pr (pr u 1 (va_cpy (u 6) (u 1) 0 0 5)) 2 (va_cpy (u 7) (u 2) 0 0 5)) 3 (va_cpy (u 8) (u 3) 0 0 5)) 0 4 zy1) 0 5 zy3) 0 6 zy5) 0 7 zy7) 0 8 zy9) 0 9 zy11) 0 10 zy13) 0 11 zy15)
set_option maxRecDepth 100000 in
set_option maxHeartbeats 4000000 in
theorem v_CC_becomeLike (u : (Nat → Nat → Int32)) {r : (Nat → Nat → Int32)} (hd : d_CC_becomeLike u = some r) : Vd RX0 "becomeLike" cX0_becomeLike 2 none (rm 1) (ab_eq none (h_CC r)) 0 0 0 0 0 [(0, .ref 0), (1, .ref 5)] [] (h_CC u) := by
  unfold d_CC_becomeLike at hd
  refine v_aload_n dX0_becomeLike_0 rfl ?_
  refine v_get (v := .ref 6) dX0_becomeLike_1 fl_X0_9 rfl rfl ?_
  refine v_iconst dX0_becomeLike_4 ic_0 ?_
  refine v_aload_n dX0_becomeLike_5 rfl ?_
  refine v_get (v := .ref 1) dX0_becomeLike_6 fl_X0_9 rfl rfl ?_
  refine v_iconst dX0_becomeLike_9 ic_0 ?_
  refine v_iconst dX0_becomeLike_10 ic_5 ?_
  refine v_copy (f := (u 6)) (g := (u 1)) (zs := 0) (zd := 0) (zn := 5) (h2 := (h_CC (pr u 1 (va_cpy (u 6) (u 1) 0 0 5)))) dX0_becomeLike_11 mc_X0_49 (by decide) rfl rfl rfl (by decide) (by decide) (by decide) (by decide) (by decide) (by decide) (by decide) (by decide) rfl ?_
  refine v_aload_n dX0_becomeLike_14 rfl ?_
  refine v_get (v := .ref 7) dX0_becomeLike_15 fl_X0_15 rfl rfl ?_
  refine v_iconst dX0_becomeLike_18 ic_0 ?_
  refine v_aload_n dX0_becomeLike_19 rfl ?_
  refine v_get (v := .ref 2) dX0_becomeLike_20 fl_X0_15 rfl rfl ?_
  refine v_iconst dX0_becomeLike_23 ic_0 ?_
  refine v_iconst dX0_becomeLike_24 ic_5 ?_
  refine v_copy (f := (u 7)) (g := (u 2)) (zs := 0) (zd := 0) (zn := 5) (h2 := (h_CC (pr (pr u 1 (va_cpy (u 6) (u 1) 0 0 5)) 2 (va_cpy (u 7) (u 2) 0 0 5)))) dX0_becomeLike_25 mc_X0_49 (by decide) rfl rfl rfl (by decide) (by decide) (by decide) (by decide) (by decide) (by decide) (by decide) (by decide) rfl ?_
  refine v_aload_n dX0_becomeLike_28 rfl ?_
  refine v_get (v := .ref 8) dX0_becomeLike_29 fl_X0_18 rfl rfl ?_
  refine v_iconst dX0_becomeLike_32 ic_0 ?_
  refine v_aload_n dX0_becomeLike_33 rfl ?_
  refine v_get (v := .ref 3) dX0_becomeLike_34 fl_X0_18 rfl rfl ?_
  refine v_iconst dX0_becomeLike_37 ic_0 ?_
  refine v_iconst dX0_becomeLike_38 ic_5 ?_
  refine v_copy (f := (u 8)) (g := (u 3)) (zs := 0) (zd := 0) (zn := 5) (h2 := (h_CC (pr (pr (pr u 1 (va_cpy (u 6) (u 1) 0 0 5)) 2 (va_cpy (u 7) (u 2) 0 0 5)) 3 (va_cpy (u 8) (u 3) 0 0 5)))) dX0_becomeLike_39 mc_X0_49 (by decide) rfl rfl rfl (by decide) (by decide) (by decide) (by decide) (by decide) (by decide) (by decide) (by decide) rfl ?_
  refine v_aload_n dX0_becomeLike_42 rfl ?_
  refine v_aload_n dX0_becomeLike_43 rfl ?_
  refine v_get (v := .int (u 5 4)) dX0_becomeLike_44 fl_X0_28 rfl rfl ?_
  refine v_topi (fun zy1 ze2 => ?_)
  have hd := dl_n hd zy1 ze2
  refine v_pti (h2 := (h_CC (pw (pr (pr (pr u 1 (va_cpy (u 6) (u 1) 0 0 5)) 2 (va_cpy (u 7) (u 2) 0 0 5)) 3 (va_cpy (u 8) (u 3) 0 0 5)) 0 4 zy1))) dX0_becomeLike_47 fl_X0_28 rfl (Nat.le_of_ble_eq_true rfl) rfl ?_
  refine v_aload_n dX0_becomeLike_50 rfl ?_
  refine v_aload_n dX0_becomeLike_51 rfl ?_
  refine v_get (v := .int (u 5 5)) dX0_becomeLike_52 fl_X0_31 rfl rfl ?_
  refine v_topi (fun zy3 ze4 => ?_)
  have hd := dl_n hd zy3 ze4
  refine v_pti (h2 := (h_CC (pw (pw (pr (pr (pr u 1 (va_cpy (u 6) (u 1) 0 0 5)) 2 (va_cpy (u 7) (u 2) 0 0 5)) 3 (va_cpy (u 8) (u 3) 0 0 5)) 0 4 zy1) 0 5 zy3))) dX0_becomeLike_55 fl_X0_31 rfl (Nat.le_of_ble_eq_true rfl) rfl ?_
  refine v_aload_n dX0_becomeLike_58 rfl ?_
  refine v_aload_n dX0_becomeLike_59 rfl ?_
  refine v_get (v := .int (u 5 6)) dX0_becomeLike_60 fl_X0_24 rfl rfl ?_
  refine v_topi (fun zy5 ze6 => ?_)
  have hd := dl_n hd zy5 ze6
  refine v_pti (h2 := (h_CC (pw (pw (pw (pr (pr (pr u 1 (va_cpy (u 6) (u 1) 0 0 5)) 2 (va_cpy (u 7) (u 2) 0 0 5)) 3 (va_cpy (u 8) (u 3) 0 0 5)) 0 4 zy1) 0 5 zy3) 0 6 zy5))) dX0_becomeLike_63 fl_X0_24 rfl (Nat.le_of_ble_eq_true rfl) rfl ?_
  refine v_aload_n dX0_becomeLike_66 rfl ?_
  refine v_aload_n dX0_becomeLike_67 rfl ?_
  refine v_get (v := .int (u 5 7)) dX0_becomeLike_68 fl_X0_34 rfl rfl ?_
  refine v_topi (fun zy7 ze8 => ?_)
  have hd := dl_n hd zy7 ze8
  refine v_pti (h2 := (h_CC (pw (pw (pw (pw (pr (pr (pr u 1 (va_cpy (u 6) (u 1) 0 0 5)) 2 (va_cpy (u 7) (u 2) 0 0 5)) 3 (va_cpy (u 8) (u 3) 0 0 5)) 0 4 zy1) 0 5 zy3) 0 6 zy5) 0 7 zy7))) dX0_becomeLike_71 fl_X0_34 rfl (Nat.le_of_ble_eq_true rfl) rfl ?_
  refine v_aload_n dX0_becomeLike_74 rfl ?_
  refine v_aload_n dX0_becomeLike_75 rfl ?_
  refine v_get (v := .int (u 5 8)) dX0_becomeLike_76 fl_X0_37 rfl rfl ?_
  refine v_topi (fun zy9 ze10 => ?_)
  have hd := dl_n hd zy9 ze10
  refine v_pti (h2 := (h_CC (pw (pw (pw (pw (pw (pr (pr (pr u 1 (va_cpy (u 6) (u 1) 0 0 5)) 2 (va_cpy (u 7) (u 2) 0 0 5)) 3 (va_cpy (u 8) (u 3) 0 0 5)) 0 4 zy1) 0 5 zy3) 0 6 zy5) 0 7 zy7) 0 8 zy9))) dX0_becomeLike_79 fl_X0_37 rfl (Nat.le_of_ble_eq_true rfl) rfl ?_
  refine v_aload_n dX0_becomeLike_82 rfl ?_
  refine v_aload_n dX0_becomeLike_83 rfl ?_
  refine v_get (v := .int (u 5 9)) dX0_becomeLike_84 fl_X0_40 rfl rfl ?_
  refine v_topi (fun zy11 ze12 => ?_)
  have hd := dl_n hd zy11 ze12
  refine v_pti (h2 := (h_CC (pw (pw (pw (pw (pw (pw (pr (pr (pr u 1 (va_cpy (u 6) (u 1) 0 0 5)) 2 (va_cpy (u 7) (u 2) 0 0 5)) 3 (va_cpy (u 8) (u 3) 0 0 5)) 0 4 zy1) 0 5 zy3) 0 6 zy5) 0 7 zy7) 0 8 zy9) 0 9 zy11))) dX0_becomeLike_87 fl_X0_40 rfl (Nat.le_of_ble_eq_true rfl) rfl ?_
  refine v_aload_n dX0_becomeLike_90 rfl ?_
  refine v_aload_n dX0_becomeLike_91 rfl ?_
  refine v_get (v := .int (u 5 10)) dX0_becomeLike_92 fl_X0_43 rfl rfl ?_
  refine v_topi (fun zy13 ze14 => ?_)
  have hd := dl_n hd zy13 ze14
  refine v_pti (h2 := (h_CC (pw (pw (pw (pw (pw (pw (pw (pr (pr (pr u 1 (va_cpy (u 6) (u 1) 0 0 5)) 2 (va_cpy (u 7) (u 2) 0 0 5)) 3 (va_cpy (u 8) (u 3) 0 0 5)) 0 4 zy1) 0 5 zy3) 0 6 zy5) 0 7 zy7) 0 8 zy9) 0 9 zy11) 0 10 zy13))) dX0_becomeLike_95 fl_X0_43 rfl (Nat.le_of_ble_eq_true rfl) rfl ?_
  refine v_aload_n dX0_becomeLike_98 rfl ?_
  refine v_aload_n dX0_becomeLike_99 rfl ?_
  refine v_get (v := .int (u 5 11)) dX0_becomeLike_100 fl_X0_46 rfl rfl ?_
  refine v_topi (fun zy15 ze16 => ?_)
  have hd := dl_n hd zy15 ze16
  refine v_pti (h2 := (h_CC (pw (pw (pw (pw (pw (pw (pw (pw (pr (pr (pr u 1 (va_cpy (u 6) (u 1) 0 0 5)) 2 (va_cpy (u 7) (u 2) 0 0 5)) 3 (va_cpy (u 8) (u 3) 0 0 5)) 0 4 zy1) 0 5 zy3) 0 6 zy5) 0 7 zy7) 0 8 zy9) 0 9 zy11) 0 10 zy13) 0 11 zy15))) dX0_becomeLike_103 fl_X0_46 rfl (Nat.le_of_ble_eq_true rfl) rfl ?_
  obtain rfl := Option.some.inj hd
  exact v_vretE dX0_becomeLike_106 rfl rfl rfl
theorem m_CC_becomeLike (u : (Nat → Nat → Int32)) {r : (Nat → Nat → Int32)} (hd : d_CC_becomeLike u = some r) : Mt yX0_becomeLike cX0_becomeLike 2 none (rm 1) [.ref 0, .ref 5] (h_CC u) (ab_eq none (h_CC r)) := Mt.of (by decide +kernel) (fun _ _ _ => trivial) (Nat.le_of_ble_eq_true rfl) (v_CC_becomeLike u hd)
def d_C_forgetLoss (u : (Nat → Nat → Int32)) : Option ((Nat → Nat → Int32)) := (d_A5_fill (sh (pw (pw u 0 10 (0 : Int32)) 0 11 (0 : Int32)) 4) (0 : Int32)).bind fun zr1 => some (pt (pw (pw u 0 10 (0 : Int32)) 0 11 (0 : Int32)) 4 1 zr1)
set_option maxRecDepth 100000 in
set_option maxHeartbeats 4000000 in
theorem v_C_forgetLoss (u : (Nat → Nat → Int32)) {r : (Nat → Nat → Int32)} (hd : d_C_forgetLoss u = some r) : Vd RX0 "forgetLoss" cX0_forgetLoss 1 none (rm 1) (ab_eq none (h_C r)) 0 0 0 0 0 [(0, .ref 0)] [] (h_C u) := by
  unfold d_C_forgetLoss at hd
  refine v_aload_n dX0_forgetLoss_0 rfl ?_
  refine v_iconst dX0_forgetLoss_1 ic_0 ?_
  refine v_pti (h2 := (h_C (pw u 0 10 (0 : Int32)))) dX0_forgetLoss_2 fl_X0_43 rfl (Nat.le_of_ble_eq_true rfl) rfl ?_
  refine v_aload_n dX0_forgetLoss_5 rfl ?_
  refine v_iconst dX0_forgetLoss_6 ic_0 ?_
  refine v_pti (h2 := (h_C (pw (pw u 0 10 (0 : Int32)) 0 11 (0 : Int32)))) dX0_forgetLoss_7 fl_X0_46 rfl (Nat.le_of_ble_eq_true rfl) rfl ?_
  refine v_aload_n dX0_forgetLoss_10 rfl ?_
  refine v_get (v := .ref 4) dX0_forgetLoss_11 fl_X0_21 rfl rfl ?_
  refine v_iconst dX0_forgetLoss_14 ic_0 ?_
  obtain ⟨zr1, zh2, hd⟩ := g_bind hd
  refine v_cS (dy := 0) (st2 := []) (h2 := (h_C (pt (pw (pw u 0 10 (0 : Int32)) 0 11 (0 : Int32)) 4 1 zr1))) [4] dX0_forgetLoss_15 mz_X0_55 (m_A5_fill (sh (pw (pw u 0 10 (0 : Int32)) 0 11 (0 : Int32)) 4) (0 : Int32) zh2) rfl rfl rfl rfl rfl rfl (by decide) (by decide) rfl rfl rfl ?_
  obtain rfl := Option.some.inj hd
  exact v_vretE dX0_forgetLoss_18 rfl rfl rfl
theorem m_C_forgetLoss (u : (Nat → Nat → Int32)) {r : (Nat → Nat → Int32)} (hd : d_C_forgetLoss u = some r) : Mt yX0_forgetLoss cX0_forgetLoss 1 none (rm 1) [.ref 0] (h_C u) (ab_eq none (h_C r)) := Mt.of (by decide +kernel) (fun _ _ _ => trivial) (Nat.le_of_ble_eq_true rfl) (v_C_forgetLoss u hd)
def d_C_loss (u : (Nat → Nat → Int32)) : Option Int32 := some ((u 0 10) + (u 0 11))
set_option maxRecDepth 100000 in
set_option maxHeartbeats 4000000 in
theorem v_C_loss (u : (Nat → Nat → Int32)) {r : Int32} (hd : d_C_loss u = some r) : Vd RX0 "loss" cX0_loss 1 (some .int) (rm 0) (ab_eq (some (.int r)) (h_C u)) 0 0 0 0 0 [(0, .ref 0)] [] (h_C u) := by
  unfold d_C_loss at hd
  refine v_aload_n dX0_loss_0 rfl ?_
  refine v_get (v := .int (u 0 10)) dX0_loss_1 fl_X0_43 rfl rfl ?_
  refine v_aload_n dX0_loss_4 rfl ?_
  refine v_get (v := .int (u 0 11)) dX0_loss_5 fl_X0_46 rfl rfl ?_
  refine v_iadd dX0_loss_8 ?_
  obtain rfl := Option.some.inj hd
  exact v_iretE dX0_loss_9 rfl rfl rfl rfl
theorem m_C_loss (u : (Nat → Nat → Int32)) {r : Int32} (hd : d_C_loss u = some r) : Mt yX0_loss cX0_loss 1 (some .int) (rm 0) [.ref 0] (h_C u) (ab_eq (some (.int r)) (h_C u)) := Mt.of (by decide +kernel) (fun _ _ _ => trivial) (Nat.le_of_ble_eq_true rfl) (v_C_loss u hd)
def d_C_has (u : (Nat → Nat → Int32)) (a1 : Int32) : Option Int32 := if a1 < 0 then (some (0 : Int32)) else (if (u 0 4) ≤ a1 then (some (0 : Int32)) else (some (1 : Int32)))
set_option maxRecDepth 100000 in
set_option maxHeartbeats 4000000 in
theorem v_C_has (u : (Nat → Nat → Int32)) (a1 : Int32) {r : Int32} (hd : d_C_has u a1 = some r) : Vd RX0 "has" cX0_has 2 (some .boolean) (rm 0) (ab_eq (some (.int r)) (h_C u)) 0 0 0 0 0 [(0, .ref 0), (1, .int a1)] [] (h_C u) := by
  unfold d_C_has at hd
  refine v_iload_n dX0_has_0 rfl ?_
  refine v_if_lt (tgt := 16) dX0_has_1 (by decide) (fun zc1 => ?_) (fun zc1 => ?_)
  · have hd := g_t hd zc1
    refine v_iconst dX0_has_16 ic_0 ?_
    obtain rfl := Option.some.inj hd
    exact v_iretE dX0_has_17 rfl rfl rfl rfl
  · have hd := g_f hd zc1
    refine v_iload_n dX0_has_4 rfl ?_
    refine v_aload_n dX0_has_5 rfl ?_
    refine v_get (v := .int (u 0 4)) dX0_has_6 fl_X0_28 rfl rfl ?_
    refine v_icmp_ge (tgt := 16) dX0_has_9 (by decide) (fun zc2 => ?_) (fun zc2 => ?_)
    · have hd := g_t hd zc2
      refine v_iconst dX0_has_16 ic_0 ?_
      obtain rfl := Option.some.inj hd
      exact v_iretE dX0_has_17 rfl rfl rfl rfl
    · have hd := g_f hd zc2
      refine v_iconst dX0_has_12 ic_1 ?_
      refine v_goto (tgt := 17) dX0_has_13 (by decide) ?_
      obtain rfl := Option.some.inj hd
      exact v_iretE dX0_has_17 rfl rfl rfl rfl
theorem m_C_has (u : (Nat → Nat → Int32)) (a1 : Int32) {r : Int32} (hd : d_C_has u a1 = some r) : Mt yX0_has cX0_has 2 (some .boolean) (rm 0) [.ref 0, .int a1] (h_C u) (ab_eq (some (.int r)) (h_C u)) := Mt.of (by decide +kernel) (fun _ _ _ => trivial) (Nat.le_of_ble_eq_true rfl) (v_C_has u a1 hd)
def d_C_addHouse (u : (Nat → Nat → Int32)) (a1 : Int32) (a2 : Int32) : Option ((Nat → Nat → Int32)) := if (u 0 4) < (5 : Int32) then (if gi (u 0 4) 5 = true then if gi (u 0 4) 5 = true then if gi (u 0 4) 5 = true then dl ((u 0 4) + (1 : Int32)) fun zy5 => some (pw (pw (pw (pw u 1 (u 0 4).toNatClampNeg a1) 2 (u 0 4).toNatClampNeg a2) 3 (u 0 4).toNatClampNeg (0 : Int32)) 0 4 zy5) else none else none else none) else (some u)
set_option maxRecDepth 100000 in
set_option maxHeartbeats 4000000 in
theorem v_C_addHouse (u : (Nat → Nat → Int32)) (a1 : Int32) (a2 : Int32) {r : (Nat → Nat → Int32)} (hd : d_C_addHouse u a1 a2 = some r) : Vd RX0 "addHouse" cX0_addHouse 3 none (rm 0) (ab_eq none (h_C r)) 0 0 0 0 0 [(0, .ref 0), (1, .int a1), (2, .int a2)] [] (h_C u) := by
  unfold d_C_addHouse at hd
  refine v_aload_n dX0_addHouse_0 rfl ?_
  refine v_get (v := .int (u 0 4)) dX0_addHouse_1 fl_X0_28 rfl rfl ?_
  refine v_iconst dX0_addHouse_4 ic_5 ?_
  refine v_icmp_lt (tgt := 9) dX0_addHouse_5 (by decide) (fun zc1 => ?_) (fun zc1 => ?_)
  · have hd := g_t hd zc1
    refine v_aload_n dX0_addHouse_9 rfl ?_
    refine v_get (v := .ref 1) dX0_addHouse_10 fl_X0_9 rfl rfl ?_
    refine v_aload_n dX0_addHouse_13 rfl ?_
    refine v_get (v := .int (u 0 4)) dX0_addHouse_14 fl_X0_28 rfl rfl ?_
    refine v_iload_n dX0_addHouse_17 rfl ?_
    obtain ⟨zg2, hd⟩ := g_b hd
    refine v_ist (f := (u 1)) (h2 := (h_C (pw u 1 (u 0 4).toNatClampNeg a1))) dX0_addHouse_18 rfl (gi_in zg2) rfl ?_
    refine v_aload_n dX0_addHouse_19 rfl ?_
    refine v_get (v := .ref 2) dX0_addHouse_20 fl_X0_15 rfl rfl ?_
    refine v_aload_n dX0_addHouse_23 rfl ?_
    refine v_get (v := .int (u 0 4)) dX0_addHouse_24 fl_X0_28 rfl rfl ?_
    refine v_iload_n dX0_addHouse_27 rfl ?_
    obtain ⟨zg3, hd⟩ := g_b hd
    refine v_ist (f := (u 2)) (h2 := (h_C (pw (pw u 1 (u 0 4).toNatClampNeg a1) 2 (u 0 4).toNatClampNeg a2))) dX0_addHouse_28 rfl (gi_in zg3) rfl ?_
    refine v_aload_n dX0_addHouse_29 rfl ?_
    refine v_get (v := .ref 3) dX0_addHouse_30 fl_X0_18 rfl rfl ?_
    refine v_aload_n dX0_addHouse_33 rfl ?_
    refine v_get (v := .int (u 0 4)) dX0_addHouse_34 fl_X0_28 rfl rfl ?_
    refine v_iconst dX0_addHouse_37 ic_0 ?_
    obtain ⟨zg4, hd⟩ := g_b hd
    refine v_ist (f := (u 3)) (h2 := (h_C (pw (pw (pw u 1 (u 0 4).toNatClampNeg a1) 2 (u 0 4).toNatClampNeg a2) 3 (u 0 4).toNatClampNeg (0 : Int32)))) dX0_addHouse_38 rfl (gi_in zg4) rfl ?_
    refine v_aload_n dX0_addHouse_39 rfl ?_
    refine v_dup dX0_addHouse_40 rfl ?_
    refine v_get (v := .int (u 0 4)) dX0_addHouse_41 fl_X0_28 rfl rfl ?_
    refine v_iconst dX0_addHouse_44 ic_1 ?_
    refine v_iadd dX0_addHouse_45 ?_
    refine v_topi (fun zy5 ze6 => ?_)
    have hd := dl_n hd zy5 ze6
    refine v_pti (h2 := (h_C (pw (pw (pw (pw u 1 (u 0 4).toNatClampNeg a1) 2 (u 0 4).toNatClampNeg a2) 3 (u 0 4).toNatClampNeg (0 : Int32)) 0 4 zy5))) dX0_addHouse_46 fl_X0_28 rfl (Nat.le_of_ble_eq_true rfl) rfl ?_
    obtain rfl := Option.some.inj hd
    exact v_vretE dX0_addHouse_49 rfl rfl rfl
  · have hd := g_f hd zc1
    obtain rfl := Option.some.inj hd
    exact v_vretE dX0_addHouse_8 rfl rfl rfl
theorem m_C_addHouse (u : (Nat → Nat → Int32)) (a1 : Int32) (a2 : Int32) {r : (Nat → Nat → Int32)} (hd : d_C_addHouse u a1 a2 = some r) : Mt yX0_addHouse cX0_addHouse 3 none (rm 0) [.ref 0, .int a1, .int a2] (h_C u) (ab_eq none (h_C r)) := Mt.of (by decide +kernel) (fun _ _ _ => trivial) (Nat.le_of_ble_eq_true rfl) (v_C_addHouse u a1 a2 hd)

def d_C_allWorth_4  : Nat → (Nat → Nat → Int32) → Int32 → Int32 → Option Int32
  | 0, _, _, _ => none
  | f + 1, u, x1, x2 => if (u 0 4) ≤ x2 then (some x1) else (if gi x2 5 = true then dl (x1 + ((u 2) x2.toNatClampNeg)) fun zy3 => dl (x2 + (1 : Int32)) fun zy5 => d_C_allWorth_4 f u zy3 zy5 else none)
set_option maxRecDepth 100000 in
set_option maxHeartbeats 4000000 in
theorem v_C_allWorth_4  {r : Int32}  : ∀ (f : Nat) (u : (Nat → Nat → Int32)) (x1 : Int32) (x2 : Int32), d_C_allWorth_4  f u x1 x2 = some r → Vd RX0 "allWorth" cX0_allWorth 3 (some .int) (rm 0) (ab_eq (some (.int r)) (h_C u)) 0 0 0 0 4 [(0, .ref 0), (1, .int x1), (2, .int x2)] [] (h_C u) := by
  intro f
  induction f with
  | zero =>
    intro u x1 x2 hd
    rw [d_C_allWorth_4] at hd
    cases hd
  | succ f ih =>
    intro u x1 x2 hd
    rw [d_C_allWorth_4] at hd
    refine v_iload_n dX0_allWorth_4 rfl ?_
    refine v_aload_n dX0_allWorth_5 rfl ?_
    refine v_get (v := .int (u 0 4)) dX0_allWorth_6 fl_X0_28 rfl rfl ?_
    refine v_icmp_ge (tgt := 27) dX0_allWorth_9 (by decide) (fun zc1 => ?_) (fun zc1 => ?_)
    · have hd := g_t hd zc1
      refine v_iload_n dX0_allWorth_27 rfl ?_
      obtain rfl := Option.some.inj hd
      exact v_iretE dX0_allWorth_28 rfl rfl rfl rfl
    · have hd := g_f hd zc1
      refine v_iload_n dX0_allWorth_12 rfl ?_
      refine v_aload_n dX0_allWorth_13 rfl ?_
      refine v_get (v := .ref 2) dX0_allWorth_14 fl_X0_15 rfl rfl ?_
      refine v_iload_n dX0_allWorth_17 rfl ?_
      obtain ⟨zg2, hd⟩ := g_b hd
      refine v_iald (f := (u 2)) dX0_allWorth_18 rfl (gi_in zg2) ?_
      refine v_iadd dX0_allWorth_19 ?_
      refine v_topi (fun zy3 ze4 => ?_)
      have hd := dl_n hd zy3 ze4
      refine v_istore_n (i := 1) (L2 := [(1, .int zy3), (0, .ref 0), (2, .int x2)]) dX0_allWorth_20 rfl (Nat.le_of_ble_eq_true rfl) rfl ?_
      obtain ⟨zy5, ze6⟩ : ∃ z : Int32, z = (x2 + (1 : Int32)) := ⟨_, rfl⟩
      have hd := dl_n hd zy5 ze6
      refine v_iinc (v := zy5) (L2 := [(2, .int zy5), (1, .int zy3), (0, .ref 0)]) dX0_allWorth_21 rfl (by rw [ic_1]; exact ze6.symm) (Nat.le_of_ble_eq_true rfl) rfl ?_
      refine v_goto (tgt := 4) dX0_allWorth_24 (by decide) ?_
      refine v_loc [2, 1, 0] rfl ?_
      exact ih u zy3 zy5 hd
def d_C_allWorth (u : (Nat → Nat → Int32)) : Option Int32 := d_C_allWorth_4 FU u (0 : Int32) (0 : Int32)
set_option maxRecDepth 100000 in
set_option maxHeartbeats 4000000 in
theorem v_C_allWorth (u : (Nat → Nat → Int32)) {r : Int32} (hd : d_C_allWorth u = some r) : Vd RX0 "allWorth" cX0_allWorth 3 (some .int) (rm 0) (ab_eq (some (.int r)) (h_C u)) 0 0 0 0 0 [(0, .ref 0)] [] (h_C u) := by
  unfold d_C_allWorth at hd
  refine v_iconst dX0_allWorth_0 ic_0 ?_
  refine v_istore_n (i := 1) (L2 := [(1, .int (0 : Int32)), (0, .ref 0)]) dX0_allWorth_1 rfl (Nat.le_of_ble_eq_true rfl) rfl ?_
  refine v_iconst dX0_allWorth_2 ic_0 ?_
  refine v_istore_n (i := 2) (L2 := [(2, .int (0 : Int32)), (1, .int (0 : Int32)), (0, .ref 0)]) dX0_allWorth_3 rfl (Nat.le_of_ble_eq_true rfl) rfl ?_
  refine v_loc [2, 1, 0] rfl ?_
  exact v_C_allWorth_4 FU u (0 : Int32) (0 : Int32) hd
theorem m_C_allWorth (u : (Nat → Nat → Int32)) {r : Int32} (hd : d_C_allWorth u = some r) : Mt yX0_allWorth cX0_allWorth 3 (some .int) (rm 0) [.ref 0] (h_C u) (ab_eq (some (.int r)) (h_C u)) := Mt.of (by decide +kernel) (fun _ _ _ => trivial) (Nat.le_of_ble_eq_true rfl) (v_C_allWorth u hd)

def d_C_allLost_4  : Nat → (Nat → Nat → Int32) → Int32 → Int32 → Option Int32
  | 0, _, _, _ => none
  | f + 1, u, x1, x2 => if (u 0 4) ≤ x2 then (some x1) else (if gi x2 5 = true then dl (x1 + ((u 3) x2.toNatClampNeg)) fun zy3 => dl (x2 + (1 : Int32)) fun zy5 => d_C_allLost_4 f u zy3 zy5 else none)
set_option maxRecDepth 100000 in
set_option maxHeartbeats 4000000 in
theorem v_C_allLost_4  {r : Int32}  : ∀ (f : Nat) (u : (Nat → Nat → Int32)) (x1 : Int32) (x2 : Int32), d_C_allLost_4  f u x1 x2 = some r → Vd RX0 "allLost" cX0_allLost 3 (some .int) (rm 0) (ab_eq (some (.int r)) (h_C u)) 0 0 0 0 4 [(0, .ref 0), (1, .int x1), (2, .int x2)] [] (h_C u) := by
  intro f
  induction f with
  | zero =>
    intro u x1 x2 hd
    rw [d_C_allLost_4] at hd
    cases hd
  | succ f ih =>
    intro u x1 x2 hd
    rw [d_C_allLost_4] at hd
    refine v_iload_n dX0_allLost_4 rfl ?_
    refine v_aload_n dX0_allLost_5 rfl ?_
    refine v_get (v := .int (u 0 4)) dX0_allLost_6 fl_X0_28 rfl rfl ?_
    refine v_icmp_ge (tgt := 27) dX0_allLost_9 (by decide) (fun zc1 => ?_) (fun zc1 => ?_)
    · have hd := g_t hd zc1
      refine v_iload_n dX0_allLost_27 rfl ?_
      obtain rfl := Option.some.inj hd
      exact v_iretE dX0_allLost_28 rfl rfl rfl rfl
    · have hd := g_f hd zc1
      refine v_iload_n dX0_allLost_12 rfl ?_
      refine v_aload_n dX0_allLost_13 rfl ?_
      refine v_get (v := .ref 3) dX0_allLost_14 fl_X0_18 rfl rfl ?_
      refine v_iload_n dX0_allLost_17 rfl ?_
      obtain ⟨zg2, hd⟩ := g_b hd
      refine v_iald (f := (u 3)) dX0_allLost_18 rfl (gi_in zg2) ?_
      refine v_iadd dX0_allLost_19 ?_
      refine v_topi (fun zy3 ze4 => ?_)
      have hd := dl_n hd zy3 ze4
      refine v_istore_n (i := 1) (L2 := [(1, .int zy3), (0, .ref 0), (2, .int x2)]) dX0_allLost_20 rfl (Nat.le_of_ble_eq_true rfl) rfl ?_
      obtain ⟨zy5, ze6⟩ : ∃ z : Int32, z = (x2 + (1 : Int32)) := ⟨_, rfl⟩
      have hd := dl_n hd zy5 ze6
      refine v_iinc (v := zy5) (L2 := [(2, .int zy5), (1, .int zy3), (0, .ref 0)]) dX0_allLost_21 rfl (by rw [ic_1]; exact ze6.symm) (Nat.le_of_ble_eq_true rfl) rfl ?_
      refine v_goto (tgt := 4) dX0_allLost_24 (by decide) ?_
      refine v_loc [2, 1, 0] rfl ?_
      exact ih u zy3 zy5 hd
def d_C_allLost (u : (Nat → Nat → Int32)) : Option Int32 := d_C_allLost_4 FU u (0 : Int32) (0 : Int32)
set_option maxRecDepth 100000 in
set_option maxHeartbeats 4000000 in
theorem v_C_allLost (u : (Nat → Nat → Int32)) {r : Int32} (hd : d_C_allLost u = some r) : Vd RX0 "allLost" cX0_allLost 3 (some .int) (rm 0) (ab_eq (some (.int r)) (h_C u)) 0 0 0 0 0 [(0, .ref 0)] [] (h_C u) := by
  unfold d_C_allLost at hd
  refine v_iconst dX0_allLost_0 ic_0 ?_
  refine v_istore_n (i := 1) (L2 := [(1, .int (0 : Int32)), (0, .ref 0)]) dX0_allLost_1 rfl (Nat.le_of_ble_eq_true rfl) rfl ?_
  refine v_iconst dX0_allLost_2 ic_0 ?_
  refine v_istore_n (i := 2) (L2 := [(2, .int (0 : Int32)), (1, .int (0 : Int32)), (0, .ref 0)]) dX0_allLost_3 rfl (Nat.le_of_ble_eq_true rfl) rfl ?_
  refine v_loc [2, 1, 0] rfl ?_
  exact v_C_allLost_4 FU u (0 : Int32) (0 : Int32) hd
theorem m_C_allLost (u : (Nat → Nat → Int32)) {r : Int32} (hd : d_C_allLost u = some r) : Mt yX0_allLost cX0_allLost 3 (some .int) (rm 0) [.ref 0] (h_C u) (ab_eq (some (.int r)) (h_C u)) := Mt.of (by decide +kernel) (fun _ _ _ => trivial) (Nat.le_of_ble_eq_true rfl) (v_C_allLost u hd)
def d_C_allKinds (u : (Nat → Nat → Int32)) : Option Int32 := some ((1 : Int32) <<< (((2 : Int32) * (u 0 4)) &&& 31))
set_option maxRecDepth 100000 in
set_option maxHeartbeats 4000000 in
theorem v_C_allKinds (u : (Nat → Nat → Int32)) {r : Int32} (hd : d_C_allKinds u = some r) : Vd RX0 "allKinds" cX0_allKinds 1 (some .int) (rm 0) (ab_eq (some (.int r)) (h_C u)) 0 0 0 0 0 [(0, .ref 0)] [] (h_C u) := by
  unfold d_C_allKinds at hd
  refine v_iconst dX0_allKinds_0 ic_1 ?_
  refine v_iconst dX0_allKinds_1 ic_2 ?_
  refine v_aload_n dX0_allKinds_2 rfl ?_
  refine v_get (v := .int (u 0 4)) dX0_allKinds_3 fl_X0_28 rfl rfl ?_
  refine v_imul dX0_allKinds_6 ?_
  refine v_ishl dX0_allKinds_7 ?_
  obtain rfl := Option.some.inj hd
  exact v_iretE dX0_allKinds_8 rfl rfl rfl rfl
theorem m_C_allKinds (u : (Nat → Nat → Int32)) {r : Int32} (hd : d_C_allKinds u = some r) : Mt yX0_allKinds cX0_allKinds 1 (some .int) (rm 0) [.ref 0] (h_C u) (ab_eq (some (.int r)) (h_C u)) := Mt.of (by decide +kernel) (fun _ _ _ => trivial) (Nat.le_of_ble_eq_true rfl) (v_C_allKinds u hd)
def d_C_kindBy (u : (Nat → Nat → Int32)) (a1 : Int32) (a2 : Int32) : Option Int32 := (d_C_has u a2).bind fun zr1 => if zr1 = 0 then (some (0 : Int32)) else (some ((a1 >>> (((2 : Int32) * (((u 0 4) - (1 : Int32)) - a2)) &&& 31)) &&& (3 : Int32)))
set_option maxRecDepth 100000 in
set_option maxHeartbeats 4000000 in
theorem v_C_kindBy (u : (Nat → Nat → Int32)) (a1 : Int32) (a2 : Int32) {r : Int32} (hd : d_C_kindBy u a1 a2 = some r) : Vd RX0 "kindBy" cX0_kindBy 3 (some .int) (rm 1) (ab_eq (some (.int r)) (h_C u)) 0 0 0 0 0 [(0, .ref 0), (1, .int a1), (2, .int a2)] [] (h_C u) := by
  unfold d_C_kindBy at hd
  refine v_aload_n dX0_kindBy_0 rfl ?_
  refine v_iload_n dX0_kindBy_1 rfl ?_
  obtain ⟨zr1, zh2, hd⟩ := g_bind hd
  refine v_cI (dy := 0) (st := []) (st2 := [.int zr1]) dX0_kindBy_2 mv_X0_61 (m_C_has u a2 zh2) rfl rfl rfl rfl rfl (by decide) (by decide) rfl rfl ?_
  refine v_if_eq (tgt := 25) dX0_kindBy_5 (by decide) (fun zc3 => ?_) (fun zc3 => ?_)
  · have hd := g_t hd zc3
    refine v_iconst dX0_kindBy_25 ic_0 ?_
    obtain rfl := Option.some.inj hd
    exact v_iretE dX0_kindBy_26 rfl rfl rfl rfl
  · have hd := g_f hd zc3
    refine v_iload_n dX0_kindBy_8 rfl ?_
    refine v_iconst dX0_kindBy_9 ic_2 ?_
    refine v_aload_n dX0_kindBy_10 rfl ?_
    refine v_get (v := .int (u 0 4)) dX0_kindBy_11 fl_X0_28 rfl rfl ?_
    refine v_iconst dX0_kindBy_14 ic_1 ?_
    refine v_isub dX0_kindBy_15 ?_
    refine v_iload_n dX0_kindBy_16 rfl ?_
    refine v_isub dX0_kindBy_17 ?_
    refine v_imul dX0_kindBy_18 ?_
    refine v_ishr dX0_kindBy_19 ?_
    refine v_iconst dX0_kindBy_20 ic_3 ?_
    refine v_iand dX0_kindBy_21 ?_
    refine v_goto (tgt := 26) dX0_kindBy_22 (by decide) ?_
    obtain rfl := Option.some.inj hd
    exact v_iretE dX0_kindBy_26 rfl rfl rfl rfl
theorem m_C_kindBy (u : (Nat → Nat → Int32)) (a1 : Int32) (a2 : Int32) {r : Int32} (hd : d_C_kindBy u a1 a2 = some r) : Mt yX0_kindBy cX0_kindBy 3 (some .int) (rm 1) [.ref 0, .int a1, .int a2] (h_C u) (ab_eq (some (.int r)) (h_C u)) := Mt.of (by decide +kernel) (fun _ _ _ => trivial) (Nat.le_of_ble_eq_true rfl) (v_C_kindBy u a1 a2 hd)

def d_C_putKinds_2  : Nat → (Nat → Nat → Int32) → Int32 → Int32 → Option ((Nat → Nat → Int32))
  | 0, _, _, _ => none
  | f + 1, u, x1, x2 => if (u 0 4) ≤ x2 then (some u) else ((d_C_kindBy u x1 x2).bind fun zr2 => if gi x2 5 = true then dl (x2 + (1 : Int32)) fun zy5 => d_C_putKinds_2 f (pw u 1 x2.toNatClampNeg zr2) x1 zy5 else none)
set_option maxRecDepth 100000 in
set_option maxHeartbeats 4000000 in
theorem v_C_putKinds_2  {r : (Nat → Nat → Int32)}  : ∀ (f : Nat) (u : (Nat → Nat → Int32)) (x1 : Int32) (x2 : Int32), d_C_putKinds_2  f u x1 x2 = some r → Vd RX0 "putKinds" cX0_putKinds 3 none (rm 2) (ab_eq none (h_C r)) 0 0 0 0 2 [(0, .ref 0), (1, .int x1), (2, .int x2)] [] (h_C u) := by
  intro f
  induction f with
  | zero =>
    intro u x1 x2 hd
    rw [d_C_putKinds_2] at hd
    cases hd
  | succ f ih =>
    intro u x1 x2 hd
    rw [d_C_putKinds_2] at hd
    refine v_iload_n dX0_putKinds_2 rfl ?_
    refine v_aload_n dX0_putKinds_3 rfl ?_
    refine v_get (v := .int (u 0 4)) dX0_putKinds_4 fl_X0_28 rfl rfl ?_
    refine v_icmp_ge (tgt := 28) dX0_putKinds_7 (by decide) (fun zc1 => ?_) (fun zc1 => ?_)
    · have hd := g_t hd zc1
      obtain rfl := Option.some.inj hd
      exact v_vretE dX0_putKinds_28 rfl rfl rfl
    · have hd := g_f hd zc1
      refine v_aload_n dX0_putKinds_10 rfl ?_
      refine v_get (v := .ref 1) dX0_putKinds_11 fl_X0_9 rfl rfl ?_
      refine v_iload_n dX0_putKinds_14 rfl ?_
      refine v_aload_n dX0_putKinds_15 rfl ?_
      refine v_iload_n dX0_putKinds_16 rfl ?_
      refine v_iload_n dX0_putKinds_17 rfl ?_
      obtain ⟨zr2, zh3, hd⟩ := g_bind hd
      refine v_cI (dy := 1) (st := [.int x2, .ref 1]) (st2 := [.int zr2, .int x2, .ref 1]) dX0_putKinds_18 mv_X0_65 (m_C_kindBy u x1 x2 zh3) rfl rfl rfl rfl rfl (by decide) (by decide) rfl rfl ?_
      obtain ⟨zg4, hd⟩ := g_b hd
      refine v_ist (f := (u 1)) (h2 := (h_C (pw u 1 x2.toNatClampNeg zr2))) dX0_putKinds_21 rfl (gi_in zg4) rfl ?_
      obtain ⟨zy5, ze6⟩ : ∃ z : Int32, z = (x2 + (1 : Int32)) := ⟨_, rfl⟩
      have hd := dl_n hd zy5 ze6
      refine v_iinc (v := zy5) (L2 := [(2, .int zy5), (0, .ref 0), (1, .int x1)]) dX0_putKinds_22 rfl (by rw [ic_1]; exact ze6.symm) (Nat.le_of_ble_eq_true rfl) rfl ?_
      refine v_goto (tgt := 2) dX0_putKinds_25 (by decide) ?_
      refine v_loc [1, 2, 0] rfl ?_
      exact ih (pw u 1 x2.toNatClampNeg zr2) x1 zy5 hd
def d_C_putKinds (u : (Nat → Nat → Int32)) (a1 : Int32) : Option ((Nat → Nat → Int32)) := d_C_putKinds_2 FU u a1 (0 : Int32)
set_option maxRecDepth 100000 in
set_option maxHeartbeats 4000000 in
theorem v_C_putKinds (u : (Nat → Nat → Int32)) (a1 : Int32) {r : (Nat → Nat → Int32)} (hd : d_C_putKinds u a1 = some r) : Vd RX0 "putKinds" cX0_putKinds 3 none (rm 2) (ab_eq none (h_C r)) 0 0 0 0 0 [(0, .ref 0), (1, .int a1)] [] (h_C u) := by
  unfold d_C_putKinds at hd
  refine v_iconst dX0_putKinds_0 ic_0 ?_
  refine v_istore_n (i := 2) (L2 := [(2, .int (0 : Int32)), (0, .ref 0), (1, .int a1)]) dX0_putKinds_1 rfl (Nat.le_of_ble_eq_true rfl) rfl ?_
  refine v_loc [1, 2, 0] rfl ?_
  exact v_C_putKinds_2 FU u a1 (0 : Int32) hd
theorem m_C_putKinds (u : (Nat → Nat → Int32)) (a1 : Int32) {r : (Nat → Nat → Int32)} (hd : d_C_putKinds u a1 = some r) : Mt yX0_putKinds cX0_putKinds 3 none (rm 2) [.ref 0, .int a1] (h_C u) (ab_eq none (h_C r)) := Mt.of (by decide +kernel) (fun _ _ _ => trivial) (Nat.le_of_ble_eq_true rfl) (v_C_putKinds u a1 hd)
def d_C_putKind (u : (Nat → Nat → Int32)) (a1 : Int32) (a2 : Int32) : Option ((Nat → Nat → Int32)) := (d_C_has u a1).bind fun zr1 => if zr1 = 0 then (some u) else (if gi a1 5 = true then some (pw u 1 a1.toNatClampNeg a2) else none)
set_option maxRecDepth 100000 in
set_option maxHeartbeats 4000000 in
theorem v_C_putKind (u : (Nat → Nat → Int32)) (a1 : Int32) (a2 : Int32) {r : (Nat → Nat → Int32)} (hd : d_C_putKind u a1 a2 = some r) : Vd RX0 "putKind" cX0_putKind 3 none (rm 1) (ab_eq none (h_C r)) 0 0 0 0 0 [(0, .ref 0), (1, .int a1), (2, .int a2)] [] (h_C u) := by
  unfold d_C_putKind at hd
  refine v_aload_n dX0_putKind_0 rfl ?_
  refine v_iload_n dX0_putKind_1 rfl ?_
  obtain ⟨zr1, zh2, hd⟩ := g_bind hd
  refine v_cI (dy := 0) (st := []) (st2 := [.int zr1]) dX0_putKind_2 mv_X0_61 (m_C_has u a1 zh2) rfl rfl rfl rfl rfl (by decide) (by decide) rfl rfl ?_
  refine v_if_eq (tgt := 15) dX0_putKind_5 (by decide) (fun zc3 => ?_) (fun zc3 => ?_)
  · have hd := g_t hd zc3
    obtain rfl := Option.some.inj hd
    exact v_vretE dX0_putKind_15 rfl rfl rfl
  · have hd := g_f hd zc3
    refine v_aload_n dX0_putKind_8 rfl ?_
    refine v_get (v := .ref 1) dX0_putKind_9 fl_X0_9 rfl rfl ?_
    refine v_iload_n dX0_putKind_12 rfl ?_
    refine v_iload_n dX0_putKind_13 rfl ?_
    obtain ⟨zg4, hd⟩ := g_b hd
    refine v_ist (f := (u 1)) (h2 := (h_C (pw u 1 a1.toNatClampNeg a2))) dX0_putKind_14 rfl (gi_in zg4) rfl ?_
    obtain rfl := Option.some.inj hd
    exact v_vretE dX0_putKind_15 rfl rfl rfl
theorem m_C_putKind (u : (Nat → Nat → Int32)) (a1 : Int32) (a2 : Int32) {r : (Nat → Nat → Int32)} (hd : d_C_putKind u a1 a2 = some r) : Mt yX0_putKind cX0_putKind 3 none (rm 1) [.ref 0, .int a1, .int a2] (h_C u) (ab_eq none (h_C r)) := Mt.of (by decide +kernel) (fun _ _ _ => trivial) (Nat.le_of_ble_eq_true rfl) (v_C_putKind u a1 a2 hd)

def d_C_putKindIn_26 (k2 : (Nat → Nat → Int32) → Int32 → Int32 → Int32 → Option ((Nat → Nat → Int32))) (u : (Nat → Nat → Int32)) (x1 : Int32) (x2 : Int32) (x3 : Int32) : Option ((Nat → Nat → Int32)) := dl (x3 + (1 : Int32)) fun zy3 => k2 u x1 x2 zy3
set_option maxRecDepth 100000 in
set_option maxHeartbeats 4000000 in
theorem v_C_putKindIn_26  {r : (Nat → Nat → Int32)} (k2 : (Nat → Nat → Int32) → Int32 → Int32 → Int32 → Option ((Nat → Nat → Int32))) (hk2 : ∀ (u : (Nat → Nat → Int32)) (x1 : Int32) (x2 : Int32) (x3 : Int32), k2 u x1 x2 x3 = some r → Vd RX0 "putKindIn" cX0_putKindIn 4 none (rm 0) (ab_eq none (h_C r)) 0 0 0 0 2 [(0, .ref 0), (1, .int x1), (2, .int x2), (3, .int x3)] [] (h_C u)) (u : (Nat → Nat → Int32)) (x1 : Int32) (x2 : Int32) (x3 : Int32) (hd : d_C_putKindIn_26 k2 u x1 x2 x3 = some r) : Vd RX0 "putKindIn" cX0_putKindIn 4 none (rm 0) (ab_eq none (h_C r)) 0 0 0 0 26 [(0, .ref 0), (1, .int x1), (2, .int x2), (3, .int x3)] [] (h_C u) := by
  unfold d_C_putKindIn_26 at hd
  obtain ⟨zy3, ze4⟩ : ∃ z : Int32, z = (x3 + (1 : Int32)) := ⟨_, rfl⟩
  have hd := dl_n hd zy3 ze4
  refine v_iinc (v := zy3) (L2 := [(3, .int zy3), (0, .ref 0), (1, .int x1), (2, .int x2)]) dX0_putKindIn_26 rfl (by rw [ic_1]; exact ze4.symm) (Nat.le_of_ble_eq_true rfl) rfl ?_
  refine v_goto (tgt := 2) dX0_putKindIn_29 (by decide) ?_
  refine v_loc [1, 2, 3, 0] rfl ?_
  exact hk2 u x1 x2 zy3 hd

def d_C_putKindIn_2  : Nat → (Nat → Nat → Int32) → Int32 → Int32 → Int32 → Option ((Nat → Nat → Int32))
  | 0, _, _, _, _ => none
  | f + 1, u, x1, x2, x3 => if (u 0 4) ≤ x3 then (some u) else (if ((x1 >>> (x3 &&& 31)) &&& (1 : Int32)) = (1 : Int32) then (if gi x3 5 = true then d_C_putKindIn_26 (d_C_putKindIn_2 f) (pw u 1 x3.toNatClampNeg x2) x1 x2 x3 else none) else (d_C_putKindIn_26 (d_C_putKindIn_2 f) u x1 x2 x3))
set_option maxRecDepth 100000 in
set_option maxHeartbeats 4000000 in
theorem v_C_putKindIn_2  {r : (Nat → Nat → Int32)}  : ∀ (f : Nat) (u : (Nat → Nat → Int32)) (x1 : Int32) (x2 : Int32) (x3 : Int32), d_C_putKindIn_2  f u x1 x2 x3 = some r → Vd RX0 "putKindIn" cX0_putKindIn 4 none (rm 0) (ab_eq none (h_C r)) 0 0 0 0 2 [(0, .ref 0), (1, .int x1), (2, .int x2), (3, .int x3)] [] (h_C u) := by
  intro f
  induction f with
  | zero =>
    intro u x1 x2 x3 hd
    rw [d_C_putKindIn_2] at hd
    cases hd
  | succ f ih =>
    intro u x1 x2 x3 hd
    rw [d_C_putKindIn_2] at hd
    refine v_iload_n dX0_putKindIn_2 rfl ?_
    refine v_aload_n dX0_putKindIn_3 rfl ?_
    refine v_get (v := .int (u 0 4)) dX0_putKindIn_4 fl_X0_28 rfl rfl ?_
    refine v_icmp_ge (tgt := 32) dX0_putKindIn_7 (by decide) (fun zc1 => ?_) (fun zc1 => ?_)
    · have hd := g_t hd zc1
      obtain rfl := Option.some.inj hd
      exact v_vretE dX0_putKindIn_32 rfl rfl rfl
    · have hd := g_f hd zc1
      refine v_iload_n dX0_putKindIn_10 rfl ?_
      refine v_iload_n dX0_putKindIn_11 rfl ?_
      refine v_ishr dX0_putKindIn_12 ?_
      refine v_iconst dX0_putKindIn_13 ic_1 ?_
      refine v_iand dX0_putKindIn_14 ?_
      refine v_iconst dX0_putKindIn_15 ic_1 ?_
      refine v_icmp_ne (tgt := 26) dX0_putKindIn_16 (by decide) (fun zc2 => ?_) (fun zc2 => ?_)
      · have hd := g_f hd zc2
        exact v_C_putKindIn_26 (d_C_putKindIn_2 f) (ih) u x1 x2 x3 hd
      · have hd := g_t hd zc2
        refine v_aload_n dX0_putKindIn_19 rfl ?_
        refine v_get (v := .ref 1) dX0_putKindIn_20 fl_X0_9 rfl rfl ?_
        refine v_iload_n dX0_putKindIn_23 rfl ?_
        refine v_iload_n dX0_putKindIn_24 rfl ?_
        obtain ⟨zg5, hd⟩ := g_b hd
        refine v_ist (f := (u 1)) (h2 := (h_C (pw u 1 x3.toNatClampNeg x2))) dX0_putKindIn_25 rfl (gi_in zg5) rfl ?_
        exact v_C_putKindIn_26 (d_C_putKindIn_2 f) (ih) (pw u 1 x3.toNatClampNeg x2) x1 x2 x3 hd
def d_C_putKindIn (u : (Nat → Nat → Int32)) (a1 : Int32) (a2 : Int32) : Option ((Nat → Nat → Int32)) := d_C_putKindIn_2 FU u a1 a2 (0 : Int32)
set_option maxRecDepth 100000 in
set_option maxHeartbeats 4000000 in
theorem v_C_putKindIn (u : (Nat → Nat → Int32)) (a1 : Int32) (a2 : Int32) {r : (Nat → Nat → Int32)} (hd : d_C_putKindIn u a1 a2 = some r) : Vd RX0 "putKindIn" cX0_putKindIn 4 none (rm 0) (ab_eq none (h_C r)) 0 0 0 0 0 [(0, .ref 0), (1, .int a1), (2, .int a2)] [] (h_C u) := by
  unfold d_C_putKindIn at hd
  refine v_iconst dX0_putKindIn_0 ic_0 ?_
  refine v_istore_n (i := 3) (L2 := [(3, .int (0 : Int32)), (0, .ref 0), (1, .int a1), (2, .int a2)]) dX0_putKindIn_1 rfl (Nat.le_of_ble_eq_true rfl) rfl ?_
  refine v_loc [1, 2, 3, 0] rfl ?_
  exact v_C_putKindIn_2 FU u a1 a2 (0 : Int32) hd
theorem m_C_putKindIn (u : (Nat → Nat → Int32)) (a1 : Int32) (a2 : Int32) {r : (Nat → Nat → Int32)} (hd : d_C_putKindIn u a1 a2 = some r) : Mt yX0_putKindIn cX0_putKindIn 4 none (rm 0) [.ref 0, .int a1, .int a2] (h_C u) (ab_eq none (h_C r)) := Mt.of (by decide +kernel) (fun _ _ _ => trivial) (Nat.le_of_ble_eq_true rfl) (v_C_putKindIn u a1 a2 hd)
def d_C_give (u : (Nat → Nat → Int32)) (a1 : Int32) (a2 : Int32) : Option ((Nat → Nat → Int32)) := if gi a1 5 = true then if gi a1 5 = true then dl (((u 2) a1.toNatClampNeg) - a2) fun zy3 => if gi a1 5 = true then if gi a1 5 = true then dl (((u 3) a1.toNatClampNeg) + a2) fun zy7 => dl ((u 0 11) + a2) fun zy9 => (d_P_max ((u 0 6) - a2) (0 : Int32)).bind fun zr11 => some (pw (pw (pw (pw u 2 a1.toNatClampNeg zy3) 3 a1.toNatClampNeg zy7) 0 11 zy9) 0 6 zr11) else none else none else none else none
set_option maxRecDepth 100000 in
set_option maxHeartbeats 4000000 in
theorem v_C_give (u : (Nat → Nat → Int32)) (a1 : Int32) (a2 : Int32) {r : (Nat → Nat → Int32)} (hd : d_C_give u a1 a2 = some r) : Vd RX0 "give" cX0_give 3 none (rm 1) (ab_eq none (h_C r)) 0 0 0 0 0 [(0, .ref 0), (1, .int a1), (2, .int a2)] [] (h_C u) := by
  unfold d_C_give at hd
  refine v_aload_n dX0_give_0 rfl ?_
  refine v_get (v := .ref 2) dX0_give_1 fl_X0_15 rfl rfl ?_
  refine v_iload_n dX0_give_4 rfl ?_
  refine v_dup2 dX0_give_5 rfl rfl ?_
  obtain ⟨zg1, hd⟩ := g_b hd
  refine v_iald (f := (u 2)) dX0_give_6 rfl (gi_in zg1) ?_
  refine v_iload_n dX0_give_7 rfl ?_
  refine v_isub dX0_give_8 ?_
  obtain ⟨zg2, hd⟩ := g_b hd
  refine v_topi (fun zy3 ze4 => ?_)
  have hd := dl_n hd zy3 ze4
  refine v_ist (f := (u 2)) (h2 := (h_C (pw u 2 a1.toNatClampNeg zy3))) dX0_give_9 rfl (gi_in zg2) rfl ?_
  refine v_aload_n dX0_give_10 rfl ?_
  refine v_get (v := .ref 3) dX0_give_11 fl_X0_18 rfl rfl ?_
  refine v_iload_n dX0_give_14 rfl ?_
  refine v_dup2 dX0_give_15 rfl rfl ?_
  obtain ⟨zg5, hd⟩ := g_b hd
  refine v_iald (f := (u 3)) dX0_give_16 rfl (gi_in zg5) ?_
  refine v_iload_n dX0_give_17 rfl ?_
  refine v_iadd dX0_give_18 ?_
  obtain ⟨zg6, hd⟩ := g_b hd
  refine v_topi (fun zy7 ze8 => ?_)
  have hd := dl_n hd zy7 ze8
  refine v_ist (f := (u 3)) (h2 := (h_C (pw (pw u 2 a1.toNatClampNeg zy3) 3 a1.toNatClampNeg zy7))) dX0_give_19 rfl (gi_in zg6) rfl ?_
  refine v_aload_n dX0_give_20 rfl ?_
  refine v_dup dX0_give_21 rfl ?_
  refine v_get (v := .int (u 0 11)) dX0_give_22 fl_X0_46 rfl rfl ?_
  refine v_iload_n dX0_give_25 rfl ?_
  refine v_iadd dX0_give_26 ?_
  refine v_topi (fun zy9 ze10 => ?_)
  have hd := dl_n hd zy9 ze10
  refine v_pti (h2 := (h_C (pw (pw (pw u 2 a1.toNatClampNeg zy3) 3 a1.toNatClampNeg zy7) 0 11 zy9))) dX0_give_27 fl_X0_46 rfl (Nat.le_of_ble_eq_true rfl) rfl ?_
  refine v_aload_n dX0_give_30 rfl ?_
  refine v_aload_n dX0_give_31 rfl ?_
  refine v_get (v := .int (u 0 6)) dX0_give_32 fl_X0_24 rfl rfl ?_
  refine v_iload_n dX0_give_35 rfl ?_
  refine v_isub dX0_give_36 ?_
  refine v_iconst dX0_give_37 ic_0 ?_
  obtain ⟨zr11, zh12, hd⟩ := g_bind hd
  refine v_cS (dy := 0) (st := [.ref 0]) (st2 := [.int zr11, .ref 0]) (h2 := (h_C (pw (pw (pw u 2 a1.toNatClampNeg zy3) 3 a1.toNatClampNeg zy7) 0 11 zy9))) [] dX0_give_38 mz_X0_91 (m_P_max ((u 0 6) - a2) (0 : Int32) zh12) rfl rfl rfl rfl rfl rfl (by decide) (by decide) rfl rfl rfl ?_
  refine v_pti (h2 := (h_C (pw (pw (pw (pw u 2 a1.toNatClampNeg zy3) 3 a1.toNatClampNeg zy7) 0 11 zy9) 0 6 zr11))) dX0_give_41 fl_X0_24 rfl (Nat.le_of_ble_eq_true rfl) rfl ?_
  obtain rfl := Option.some.inj hd
  exact v_vretE dX0_give_44 rfl rfl rfl
theorem m_C_give (u : (Nat → Nat → Int32)) (a1 : Int32) (a2 : Int32) {r : (Nat → Nat → Int32)} (hd : d_C_give u a1 a2 = some r) : Mt yX0_give cX0_give 3 none (rm 1) [.ref 0, .int a1, .int a2] (h_C u) (ab_eq none (h_C r)) := Mt.of (by decide +kernel) (fun _ _ _ => trivial) (Nat.le_of_ble_eq_true rfl) (v_C_give u a1 a2 hd)
def d_C_giveAhead (u : (Nat → Nat → Int32)) (a1 : Int32) (a2 : Int32) : Option (Int32 × (Nat → Nat → Int32)) := (d_C_has u a1).bind fun zr1 => if zr1 = 0 then (some ((-1 : Int32), u)) else ((d_P_outside a2 (1 : Int32) (20 : Int32)).bind fun zr4 => if zr4 = 0 then (if gi a1 5 = true then if a2 ≤ ((u 2) a1.toNatClampNeg) then ((d_C_give u a1 a2).bind fun zr9 => some ((zr9 0 6), zr9)) else (some ((-2 : Int32), u)) else none) else (some ((-1 : Int32), u)))
set_option maxRecDepth 100000 in
set_option maxHeartbeats 4000000 in
theorem v_C_giveAhead (u : (Nat → Nat → Int32)) (a1 : Int32) (a2 : Int32) {r : Int32 × (Nat → Nat → Int32)} (hd : d_C_giveAhead u a1 a2 = some r) : Vd RX0 "giveAhead" cX0_giveAhead 3 (some .int) (rm 2) (ab_eq (some (.int r.1)) (h_C r.2)) 0 0 0 0 0 [(0, .ref 0), (1, .int a1), (2, .int a2)] [] (h_C u) := by
  unfold d_C_giveAhead at hd
  refine v_aload_n dX0_giveAhead_0 rfl ?_
  refine v_iload_n dX0_giveAhead_1 rfl ?_
  obtain ⟨zr1, zh2, hd⟩ := g_bind hd
  refine v_cI (dy := 0) (st := []) (st2 := [.int zr1]) dX0_giveAhead_2 mv_X0_61 (m_C_has u a1 zh2) rfl rfl rfl rfl rfl (by decide) (by decide) rfl rfl ?_
  refine v_if_eq (tgt := 18) dX0_giveAhead_5 (by decide) (fun zc3 => ?_) (fun zc3 => ?_)
  · have hd := g_t hd zc3
    refine v_iconst dX0_giveAhead_18 ic_m1 ?_
    obtain rfl := Option.some.inj hd
    exact v_iretE dX0_giveAhead_19 rfl rfl rfl rfl
  · have hd := g_f hd zc3
    refine v_iload_n dX0_giveAhead_8 rfl ?_
    refine v_iconst dX0_giveAhead_9 ic_1 ?_
    refine v_bipush dX0_giveAhead_10 bp_20 ?_
    obtain ⟨zr4, zh5, hd⟩ := g_bind hd
    refine v_cN (dy := 0) (st := []) (st2 := [.int zr4]) (h2 := (h_C u)) [] dX0_giveAhead_12 mn_X0_69 (m_P_outside a2 (1 : Int32) (20 : Int32) zh5) rfl rfl rfl rfl rfl rfl (by decide) (by decide) rfl rfl rfl ?_
    refine v_if_eq (tgt := 20) dX0_giveAhead_15 (by decide) (fun zc6 => ?_) (fun zc6 => ?_)
    · have hd := g_t hd zc6
      refine v_aload_n dX0_giveAhead_20 rfl ?_
      refine v_get (v := .ref 2) dX0_giveAhead_21 fl_X0_15 rfl rfl ?_
      refine v_iload_n dX0_giveAhead_24 rfl ?_
      obtain ⟨zg7, hd⟩ := g_b hd
      refine v_iald (f := (u 2)) dX0_giveAhead_25 rfl (gi_in zg7) ?_
      refine v_iload_n dX0_giveAhead_26 rfl ?_
      refine v_icmp_ge (tgt := 33) dX0_giveAhead_27 (by decide) (fun zc8 => ?_) (fun zc8 => ?_)
      · have hd := g_t hd zc8
        refine v_aload_n dX0_giveAhead_33 rfl ?_
        refine v_iload_n dX0_giveAhead_34 rfl ?_
        refine v_iload_n dX0_giveAhead_35 rfl ?_
        obtain ⟨zr9, zh10, hd⟩ := g_bind hd
        refine v_cI (dy := 1) (st := []) (st2 := []) dX0_giveAhead_36 mv_X0_73 (m_C_give u a1 a2 zh10) rfl rfl rfl rfl rfl (by decide) (by decide) rfl rfl ?_
        refine v_aload_n dX0_giveAhead_39 rfl ?_
        refine v_get (v := .int (zr9 0 6)) dX0_giveAhead_40 fl_X0_24 rfl rfl ?_
        obtain rfl := Option.some.inj hd
        exact v_iretE dX0_giveAhead_43 rfl rfl rfl rfl
      · have hd := g_f hd zc8
        refine v_bipush dX0_giveAhead_30 bp_m2 ?_
        obtain rfl := Option.some.inj hd
        exact v_iretE dX0_giveAhead_32 rfl rfl rfl rfl
    · have hd := g_f hd zc6
      refine v_iconst dX0_giveAhead_18 ic_m1 ?_
      obtain rfl := Option.some.inj hd
      exact v_iretE dX0_giveAhead_19 rfl rfl rfl rfl
theorem m_C_giveAhead (u : (Nat → Nat → Int32)) (a1 : Int32) (a2 : Int32) {r : Int32 × (Nat → Nat → Int32)} (hd : d_C_giveAhead u a1 a2 = some r) : Mt yX0_giveAhead cX0_giveAhead 3 (some .int) (rm 2) [.ref 0, .int a1, .int a2] (h_C u) (ab_eq (some (.int r.1)) (h_C r.2)) := Mt.of (by decide +kernel) (fun _ _ _ => trivial) (Nat.le_of_ble_eq_true rfl) (v_C_giveAhead u a1 a2 hd)
def d_C_burn (u : (Nat → Nat → Int32)) (a1 : Int32) (a2 : Int32) : Option (Int32 × (Nat → Nat → Int32)) := if gi a1 5 = true then (d_P_min a2 ((u 2) a1.toNatClampNeg)).bind fun zr2 => if gi a1 5 = true then if gi a1 5 = true then dl (((u 2) a1.toNatClampNeg) - zr2) fun zy6 => if gi a1 5 = true then if gi a1 5 = true then dl (((u 3) a1.toNatClampNeg) + zr2) fun zy10 => if gi a1 5 = true then if gi a1 5 = true then dl (((u 4) a1.toNatClampNeg) + zr2) fun zy14 => dl ((u 0 10) + zr2) fun zy16 => some (zr2, (pw (pw (pw (pw u 2 a1.toNatClampNeg zy6) 3 a1.toNatClampNeg zy10) 4 a1.toNatClampNeg zy14) 0 10 zy16)) else none else none else none else none else none else none else none
set_option maxRecDepth 100000 in
set_option maxHeartbeats 4000000 in
theorem v_C_burn (u : (Nat → Nat → Int32)) (a1 : Int32) (a2 : Int32) {r : Int32 × (Nat → Nat → Int32)} (hd : d_C_burn u a1 a2 = some r) : Vd RX0 "burn" cX0_burn 4 (some .int) (rm 1) (ab_eq (some (.int r.1)) (h_C r.2)) 0 0 0 0 0 [(0, .ref 0), (1, .int a1), (2, .int a2)] [] (h_C u) := by
  unfold d_C_burn at hd
  refine v_iload_n dX0_burn_0 rfl ?_
  refine v_aload_n dX0_burn_1 rfl ?_
  refine v_get (v := .ref 2) dX0_burn_2 fl_X0_15 rfl rfl ?_
  refine v_iload_n dX0_burn_5 rfl ?_
  obtain ⟨zg1, hd⟩ := g_b hd
  refine v_iald (f := (u 2)) dX0_burn_6 rfl (gi_in zg1) ?_
  obtain ⟨zr2, zh3, hd⟩ := g_bind hd
  refine v_cS (dy := 0) (st := []) (st2 := [.int zr2]) (h2 := (h_C u)) [] dX0_burn_7 mz_X0_83 (m_P_min a2 ((u 2) a1.toNatClampNeg) zh3) rfl rfl rfl rfl rfl rfl (by decide) (by decide) rfl rfl rfl ?_
  refine v_istore_n (i := 3) (L2 := [(3, .int zr2), (0, .ref 0), (1, .int a1), (2, .int a2)]) dX0_burn_10 rfl (Nat.le_of_ble_eq_true rfl) rfl ?_
  refine v_aload_n dX0_burn_11 rfl ?_
  refine v_get (v := .ref 2) dX0_burn_12 fl_X0_15 rfl rfl ?_
  refine v_iload_n dX0_burn_15 rfl ?_
  refine v_dup2 dX0_burn_16 rfl rfl ?_
  obtain ⟨zg4, hd⟩ := g_b hd
  refine v_iald (f := (u 2)) dX0_burn_17 rfl (gi_in zg4) ?_
  refine v_iload_n dX0_burn_18 rfl ?_
  refine v_isub dX0_burn_19 ?_
  obtain ⟨zg5, hd⟩ := g_b hd
  refine v_topi (fun zy6 ze7 => ?_)
  have hd := dl_n hd zy6 ze7
  refine v_ist (f := (u 2)) (h2 := (h_C (pw u 2 a1.toNatClampNeg zy6))) dX0_burn_20 rfl (gi_in zg5) rfl ?_
  refine v_aload_n dX0_burn_21 rfl ?_
  refine v_get (v := .ref 3) dX0_burn_22 fl_X0_18 rfl rfl ?_
  refine v_iload_n dX0_burn_25 rfl ?_
  refine v_dup2 dX0_burn_26 rfl rfl ?_
  obtain ⟨zg8, hd⟩ := g_b hd
  refine v_iald (f := (u 3)) dX0_burn_27 rfl (gi_in zg8) ?_
  refine v_iload_n dX0_burn_28 rfl ?_
  refine v_iadd dX0_burn_29 ?_
  obtain ⟨zg9, hd⟩ := g_b hd
  refine v_topi (fun zy10 ze11 => ?_)
  have hd := dl_n hd zy10 ze11
  refine v_ist (f := (u 3)) (h2 := (h_C (pw (pw u 2 a1.toNatClampNeg zy6) 3 a1.toNatClampNeg zy10))) dX0_burn_30 rfl (gi_in zg9) rfl ?_
  refine v_aload_n dX0_burn_31 rfl ?_
  refine v_get (v := .ref 4) dX0_burn_32 fl_X0_21 rfl rfl ?_
  refine v_iload_n dX0_burn_35 rfl ?_
  refine v_dup2 dX0_burn_36 rfl rfl ?_
  obtain ⟨zg12, hd⟩ := g_b hd
  refine v_iald (f := (u 4)) dX0_burn_37 rfl (gi_in zg12) ?_
  refine v_iload_n dX0_burn_38 rfl ?_
  refine v_iadd dX0_burn_39 ?_
  obtain ⟨zg13, hd⟩ := g_b hd
  refine v_topi (fun zy14 ze15 => ?_)
  have hd := dl_n hd zy14 ze15
  refine v_ist (f := (u 4)) (h2 := (h_C (pw (pw (pw u 2 a1.toNatClampNeg zy6) 3 a1.toNatClampNeg zy10) 4 a1.toNatClampNeg zy14))) dX0_burn_40 rfl (gi_in zg13) rfl ?_
  refine v_aload_n dX0_burn_41 rfl ?_
  refine v_dup dX0_burn_42 rfl ?_
  refine v_get (v := .int (u 0 10)) dX0_burn_43 fl_X0_43 rfl rfl ?_
  refine v_iload_n dX0_burn_46 rfl ?_
  refine v_iadd dX0_burn_47 ?_
  refine v_topi (fun zy16 ze17 => ?_)
  have hd := dl_n hd zy16 ze17
  refine v_pti (h2 := (h_C (pw (pw (pw (pw u 2 a1.toNatClampNeg zy6) 3 a1.toNatClampNeg zy10) 4 a1.toNatClampNeg zy14) 0 10 zy16))) dX0_burn_48 fl_X0_43 rfl (Nat.le_of_ble_eq_true rfl) rfl ?_
  refine v_iload_n dX0_burn_51 rfl ?_
  obtain rfl := Option.some.inj hd
  exact v_iretE dX0_burn_52 rfl rfl rfl rfl
theorem m_C_burn (u : (Nat → Nat → Int32)) (a1 : Int32) (a2 : Int32) {r : Int32 × (Nat → Nat → Int32)} (hd : d_C_burn u a1 a2 = some r) : Mt yX0_burn cX0_burn 4 (some .int) (rm 1) [.ref 0, .int a1, .int a2] (h_C u) (ab_eq (some (.int r.1)) (h_C r.2)) := Mt.of (by decide +kernel) (fun _ _ _ => trivial) (Nat.le_of_ble_eq_true rfl) (v_C_burn u a1 a2 hd)

def d_C_ask_197  (u : (Nat → Nat → Int32)) (x1 : Int32) : Option ((Nat → Nat → Int32)) := some (pw u 0 5 x1)
set_option maxRecDepth 100000 in
set_option maxHeartbeats 4000000 in
theorem v_C_ask_197  {r : (Nat → Nat → Int32)}  (u : (Nat → Nat → Int32)) (x1 : Int32) (hd : d_C_ask_197  u x1 = some r) : Vd RX0 "ask" cX0_ask 3 none (rm 2) (ab_eq none (h_C r)) 0 0 0 0 197 [(0, .ref 0), (1, .int x1)] [] (h_C u) := by
  unfold d_C_ask_197 at hd
  refine v_aload_n dX0_ask_197 rfl ?_
  refine v_iload_n dX0_ask_198 rfl ?_
  refine v_pti (h2 := (h_C (pw u 0 5 x1))) dX0_ask_199 fl_X0_31 rfl (Nat.le_of_ble_eq_true rfl) rfl ?_
  obtain rfl := Option.some.inj hd
  exact v_vretE dX0_ask_202 rfl rfl rfl

def d_C_ask_74  (u : (Nat → Nat → Int32)) (x1 : Int32) (s0 : Int32) : Option ((Nat → Nat → Int32)) := if s0 = (1 : Int32) then ((d_P_min ((u 0 7) + (1 : Int32)) (9 : Int32)).bind fun zr9 => (d_C_burn (pw u 0 7 zr9) x1 zr9).bind fun zr11 => d_C_ask_197 zr11.2 x1) else if s0 = (2 : Int32) then ((d_C_burn u (u 0 5) (u 0 6)).bind fun zr14 => dl ((u 0 6) - zr14.1) fun zy16 => d_C_ask_197 (pw zr14.2 0 6 zy16) x1) else if s0 = (3 : Int32) then ((d_C_give u (u 0 5) (1 : Int32)).bind fun zr19 => (d_P_max ((zr19 0 7) - (1 : Int32)) (0 : Int32)).bind fun zr21 => d_C_ask_197 (pw zr19 0 7 zr21) x1) else ((d_P_min ((u 0 6) + (1 : Int32)) (20 : Int32)).bind fun zr23 => d_C_ask_197 (pw u 0 6 zr23) x1)
set_option maxRecDepth 100000 in
set_option maxHeartbeats 4000000 in
theorem v_C_ask_74  {r : (Nat → Nat → Int32)}  (u : (Nat → Nat → Int32)) (x1 : Int32) (s0 : Int32) (hd : d_C_ask_74  u x1 s0 = some r) : Vd RX0 "ask" cX0_ask 3 none (rm 2) (ab_eq none (h_C r)) 0 0 0 0 74 [(0, .ref 0), (1, .int x1)] [.int s0] (h_C u) := by
  unfold d_C_ask_74 at hd
  refine v_istore_n (i := 2) (L2 := [(2, .int s0), (0, .ref 0), (1, .int x1)]) dX0_ask_74 rfl (Nat.le_of_ble_eq_true rfl) rfl ?_
  refine v_iload_n dX0_ask_75 rfl ?_
  by_cases zc8 : s0 = (1 : Int32)
  · have hd := g_t hd zc8
    refine v_tIn (1 : Int32) (tgt := 104) dX0_ask_76 zc8 (by decide) (by decide) rfl (by decide) ?_
    refine v_aload_n dX0_ask_104 rfl ?_
    refine v_aload_n dX0_ask_105 rfl ?_
    refine v_get (v := .int (u 0 7)) dX0_ask_106 fl_X0_34 rfl rfl ?_
    refine v_iconst dX0_ask_109 ic_1 ?_
    refine v_iadd dX0_ask_110 ?_
    refine v_bipush dX0_ask_111 bp_9 ?_
    obtain ⟨zr9, zh10, hd⟩ := g_bind hd
    refine v_cS (dy := 0) (st := [.ref 0]) (st2 := [.int zr9, .ref 0]) (h2 := (h_C u)) [] dX0_ask_113 mz_X0_83 (m_P_min ((u 0 7) + (1 : Int32)) (9 : Int32) zh10) rfl rfl rfl rfl rfl rfl (by decide) (by decide) rfl rfl rfl ?_
    refine v_pti (h2 := (h_C (pw u 0 7 zr9))) dX0_ask_116 fl_X0_34 rfl (Nat.le_of_ble_eq_true rfl) rfl ?_
    refine v_aload_n dX0_ask_119 rfl ?_
    refine v_iload_n dX0_ask_120 rfl ?_
    refine v_aload_n dX0_ask_121 rfl ?_
    refine v_get (v := .int zr9) dX0_ask_122 fl_X0_34 rfl rfl ?_
    obtain ⟨zr11, zh12, hd⟩ := g_bind hd
    refine v_cI (dy := 1) (st := []) (st2 := [.int zr11.1]) dX0_ask_125 mv_X0_88 (m_C_burn (pw u 0 7 zr9) x1 zr9 zh12) rfl rfl rfl rfl rfl (by decide) (by decide) rfl rfl ?_
    refine v_pop dX0_ask_128 rfl ?_
    refine v_goto (tgt := 197) dX0_ask_129 (by decide) ?_
    refine v_loc [1, 2] rfl ?_
    exact v_C_ask_197 zr11.2 x1 hd
  have hd := g_f hd zc8
  by_cases zc13 : s0 = (2 : Int32)
  · have hd := g_t hd zc13
    refine v_tIn (2 : Int32) (tgt := 132) dX0_ask_76 zc13 (by decide) (by decide) rfl (by decide) ?_
    refine v_aload_n dX0_ask_132 rfl ?_
    refine v_dup dX0_ask_133 rfl ?_
    refine v_get (v := .int (u 0 6)) dX0_ask_134 fl_X0_24 rfl rfl ?_
    refine v_aload_n dX0_ask_137 rfl ?_
    refine v_aload_n dX0_ask_138 rfl ?_
    refine v_get (v := .int (u 0 5)) dX0_ask_139 fl_X0_31 rfl rfl ?_
    refine v_aload_n dX0_ask_142 rfl ?_
    refine v_get (v := .int (u 0 6)) dX0_ask_143 fl_X0_24 rfl rfl ?_
    obtain ⟨zr14, zh15, hd⟩ := g_bind hd
    refine v_cI (dy := 1) (st := [.int (u 0 6), .ref 0]) (st2 := [.int zr14.1, .int (u 0 6), .ref 0]) dX0_ask_146 mv_X0_88 (m_C_burn u (u 0 5) (u 0 6) zh15) rfl rfl rfl rfl rfl (by decide) (by decide) rfl rfl ?_
    refine v_isub dX0_ask_149 ?_
    refine v_topi (fun zy16 ze17 => ?_)
    have hd := dl_n hd zy16 ze17
    refine v_pti (h2 := (h_C (pw zr14.2 0 6 zy16))) dX0_ask_150 fl_X0_24 rfl (Nat.le_of_ble_eq_true rfl) rfl ?_
    refine v_goto (tgt := 197) dX0_ask_153 (by decide) ?_
    refine v_loc [1, 2] rfl ?_
    exact v_C_ask_197 (pw zr14.2 0 6 zy16) x1 hd
  have hd := g_f hd zc13
  by_cases zc18 : s0 = (3 : Int32)
  · have hd := g_t hd zc18
    refine v_tIn (3 : Int32) (tgt := 156) dX0_ask_76 zc18 (by decide) (by decide) rfl (by decide) ?_
    refine v_aload_n dX0_ask_156 rfl ?_
    refine v_aload_n dX0_ask_157 rfl ?_
    refine v_get (v := .int (u 0 5)) dX0_ask_158 fl_X0_31 rfl rfl ?_
    refine v_iconst dX0_ask_161 ic_1 ?_
    obtain ⟨zr19, zh20, hd⟩ := g_bind hd
    refine v_cI (dy := 1) (st := []) (st2 := []) dX0_ask_162 mv_X0_73 (m_C_give u (u 0 5) (1 : Int32) zh20) rfl rfl rfl rfl rfl (by decide) (by decide) rfl rfl ?_
    refine v_aload_n dX0_ask_165 rfl ?_
    refine v_aload_n dX0_ask_166 rfl ?_
    refine v_get (v := .int (zr19 0 7)) dX0_ask_167 fl_X0_34 rfl rfl ?_
    refine v_iconst dX0_ask_170 ic_1 ?_
    refine v_isub dX0_ask_171 ?_
    refine v_iconst dX0_ask_172 ic_0 ?_
    obtain ⟨zr21, zh22, hd⟩ := g_bind hd
    refine v_cS (dy := 0) (st := [.ref 0]) (st2 := [.int zr21, .ref 0]) (h2 := (h_C zr19)) [] dX0_ask_173 mz_X0_91 (m_P_max ((zr19 0 7) - (1 : Int32)) (0 : Int32) zh22) rfl rfl rfl rfl rfl rfl (by decide) (by decide) rfl rfl rfl ?_
    refine v_pti (h2 := (h_C (pw zr19 0 7 zr21))) dX0_ask_176 fl_X0_34 rfl (Nat.le_of_ble_eq_true rfl) rfl ?_
    refine v_goto (tgt := 197) dX0_ask_179 (by decide) ?_
    refine v_loc [1, 2] rfl ?_
    exact v_C_ask_197 (pw zr19 0 7 zr21) x1 hd
  have hd := g_f hd zc18
  refine v_tOut (tgt := 182) dX0_ask_76 (by have q0 := lv_neT (a := 1) zc8 rfl; have q1 := lv_neT (a := 2) zc13 rfl; have q2 := lv_neT (a := 3) zc18 rfl; omega) (by decide) ?_
  refine v_aload_n dX0_ask_182 rfl ?_
  refine v_aload_n dX0_ask_183 rfl ?_
  refine v_get (v := .int (u 0 6)) dX0_ask_184 fl_X0_24 rfl rfl ?_
  refine v_iconst dX0_ask_187 ic_1 ?_
  refine v_iadd dX0_ask_188 ?_
  refine v_bipush dX0_ask_189 bp_20 ?_
  obtain ⟨zr23, zh24, hd⟩ := g_bind hd
  refine v_cS (dy := 0) (st := [.ref 0]) (st2 := [.int zr23, .ref 0]) (h2 := (h_C u)) [] dX0_ask_191 mz_X0_83 (m_P_min ((u 0 6) + (1 : Int32)) (20 : Int32) zh24) rfl rfl rfl rfl rfl rfl (by decide) (by decide) rfl rfl rfl ?_
  refine v_pti (h2 := (h_C (pw u 0 6 zr23))) dX0_ask_194 fl_X0_24 rfl (Nat.le_of_ble_eq_true rfl) rfl ?_
  refine v_loc [1, 2] rfl ?_
  exact v_C_ask_197 (pw u 0 6 zr23) x1 hd

def d_C_ask_65  (u : (Nat → Nat → Int32)) (x1 : Int32) : Option ((Nat → Nat → Int32)) := if gi (u 0 5) 5 = true then d_C_ask_74 u x1 ((u 1) (u 0 5).toNatClampNeg) else none
set_option maxRecDepth 100000 in
set_option maxHeartbeats 4000000 in
theorem v_C_ask_65  {r : (Nat → Nat → Int32)}  (u : (Nat → Nat → Int32)) (x1 : Int32) (hd : d_C_ask_65  u x1 = some r) : Vd RX0 "ask" cX0_ask 3 none (rm 2) (ab_eq none (h_C r)) 0 0 0 0 65 [(0, .ref 0), (1, .int x1)] [] (h_C u) := by
  unfold d_C_ask_65 at hd
  refine v_aload_n dX0_ask_65 rfl ?_
  refine v_get (v := .ref 1) dX0_ask_66 fl_X0_9 rfl rfl ?_
  refine v_aload_n dX0_ask_69 rfl ?_
  refine v_get (v := .int (u 0 5)) dX0_ask_70 fl_X0_31 rfl rfl ?_
  obtain ⟨zg7, hd⟩ := g_b hd
  refine v_iald (f := (u 1)) dX0_ask_73 rfl (gi_in zg7) ?_
  exact v_C_ask_74 u x1 ((u 1) (u 0 5).toNatClampNeg) hd

def d_C_ask_35  (u : (Nat → Nat → Int32)) (s0 : Int32) : Option ((Nat → Nat → Int32)) := if gi (u 0 5) 5 = true then if ((u 1) (u 0 5).toNatClampNeg) = (3 : Int32) then (if gi (u 0 5) 5 = true then if ((u 2) (u 0 5).toNatClampNeg) = 0 then (d_C_ask_74 u s0 (0 : Int32)) else (d_C_ask_65 u s0) else none) else (d_C_ask_65 u s0) else none
set_option maxRecDepth 100000 in
set_option maxHeartbeats 4000000 in
theorem v_C_ask_35  {r : (Nat → Nat → Int32)}  (u : (Nat → Nat → Int32)) (s0 : Int32) (hd : d_C_ask_35  u s0 = some r) : Vd RX0 "ask" cX0_ask 3 none (rm 2) (ab_eq none (h_C r)) 0 0 0 0 35 [(0, .ref 0)] [.int s0] (h_C u) := by
  unfold d_C_ask_35 at hd
  refine v_istore_n (i := 1) (L2 := [(1, .int s0), (0, .ref 0)]) dX0_ask_35 rfl (Nat.le_of_ble_eq_true rfl) rfl ?_
  refine v_aload_n dX0_ask_36 rfl ?_
  refine v_get (v := .ref 1) dX0_ask_37 fl_X0_9 rfl rfl ?_
  refine v_aload_n dX0_ask_40 rfl ?_
  refine v_get (v := .int (u 0 5)) dX0_ask_41 fl_X0_31 rfl rfl ?_
  obtain ⟨zg5, hd⟩ := g_b hd
  refine v_iald (f := (u 1)) dX0_ask_44 rfl (gi_in zg5) ?_
  refine v_iconst dX0_ask_45 ic_3 ?_
  refine v_icmp_ne (tgt := 65) dX0_ask_46 (by decide) (fun zc6 => ?_) (fun zc6 => ?_)
  · have hd := g_f hd zc6
    refine v_loc [1, 0] rfl ?_
    exact v_C_ask_65 u s0 hd
  · have hd := g_t hd zc6
    refine v_aload_n dX0_ask_49 rfl ?_
    refine v_get (v := .ref 2) dX0_ask_50 fl_X0_15 rfl rfl ?_
    refine v_aload_n dX0_ask_53 rfl ?_
    refine v_get (v := .int (u 0 5)) dX0_ask_54 fl_X0_31 rfl rfl ?_
    obtain ⟨zg25, hd⟩ := g_b hd
    refine v_iald (f := (u 2)) dX0_ask_57 rfl (gi_in zg25) ?_
    refine v_if_ne (tgt := 65) dX0_ask_58 (by decide) (fun zc26 => ?_) (fun zc26 => ?_)
    · have hd := g_f hd zc26
      refine v_loc [1, 0] rfl ?_
      exact v_C_ask_65 u s0 hd
    · have hd := g_t hd zc26
      refine v_iconst dX0_ask_61 ic_0 ?_
      refine v_goto (tgt := 74) dX0_ask_62 (by decide) ?_
      refine v_loc [1, 0] rfl ?_
      exact v_C_ask_74 u s0 (0 : Int32) hd
def d_C_ask (u : (Nat → Nat → Int32)) : Option ((Nat → Nat → Int32)) := (d_C_has u (u 0 5)).bind fun zr1 => if zr1 = 0 then (some u) else (if (u 0 4) ≤ ((u 0 5) + (1 : Int32)) then (d_C_ask_35 u (0 : Int32)) else (d_C_ask_35 u ((u 0 5) + (1 : Int32))))
set_option maxRecDepth 100000 in
set_option maxHeartbeats 4000000 in
theorem v_C_ask (u : (Nat → Nat → Int32)) {r : (Nat → Nat → Int32)} (hd : d_C_ask u = some r) : Vd RX0 "ask" cX0_ask 3 none (rm 2) (ab_eq none (h_C r)) 0 0 0 0 0 [(0, .ref 0)] [] (h_C u) := by
  unfold d_C_ask at hd
  refine v_aload_n dX0_ask_0 rfl ?_
  refine v_aload_n dX0_ask_1 rfl ?_
  refine v_get (v := .int (u 0 5)) dX0_ask_2 fl_X0_31 rfl rfl ?_
  obtain ⟨zr1, zh2, hd⟩ := g_bind hd
  refine v_cI (dy := 0) (st := []) (st2 := [.int zr1]) dX0_ask_5 mv_X0_61 (m_C_has u (u 0 5) zh2) rfl rfl rfl rfl rfl (by decide) (by decide) rfl rfl ?_
  refine v_if_ne (tgt := 12) dX0_ask_8 (by decide) (fun zc3 => ?_) (fun zc3 => ?_)
  · have hd := g_f hd zc3
    refine v_aload_n dX0_ask_12 rfl ?_
    refine v_get (v := .int (u 0 5)) dX0_ask_13 fl_X0_31 rfl rfl ?_
    refine v_iconst dX0_ask_16 ic_1 ?_
    refine v_iadd dX0_ask_17 ?_
    refine v_aload_n dX0_ask_18 rfl ?_
    refine v_get (v := .int (u 0 4)) dX0_ask_19 fl_X0_28 rfl rfl ?_
    refine v_icmp_ge (tgt := 34) dX0_ask_22 (by decide) (fun zc4 => ?_) (fun zc4 => ?_)
    · have hd := g_t hd zc4
      refine v_iconst dX0_ask_34 ic_0 ?_
      exact v_C_ask_35 u (0 : Int32) hd
    · have hd := g_f hd zc4
      refine v_aload_n dX0_ask_25 rfl ?_
      refine v_get (v := .int (u 0 5)) dX0_ask_26 fl_X0_31 rfl rfl ?_
      refine v_iconst dX0_ask_29 ic_1 ?_
      refine v_iadd dX0_ask_30 ?_
      refine v_goto (tgt := 35) dX0_ask_31 (by decide) ?_
      exact v_C_ask_35 u ((u 0 5) + (1 : Int32)) hd
  · have hd := g_t hd zc3
    obtain rfl := Option.some.inj hd
    exact v_vretE dX0_ask_11 rfl rfl rfl
theorem m_C_ask (u : (Nat → Nat → Int32)) {r : (Nat → Nat → Int32)} (hd : d_C_ask u = some r) : Mt yX0_ask cX0_ask 3 none (rm 2) [.ref 0] (h_C u) (ab_eq none (h_C r)) := Mt.of (by decide +kernel) (fun _ _ _ => trivial) (Nat.le_of_ble_eq_true rfl) (v_C_ask u hd)

def d_C_passNight_21  (u : (Nat → Nat → Int32)) : Option ((Nat → Nat → Int32)) := dl ((u 0 9) + (1 : Int32)) fun zy2 => some (pw u 0 9 zy2)
set_option maxRecDepth 100000 in
set_option maxHeartbeats 4000000 in
theorem v_C_passNight_21  {r : (Nat → Nat → Int32)}  (u : (Nat → Nat → Int32)) (hd : d_C_passNight_21  u = some r) : Vd RX0 "passNight" cX0_passNight 1 none (rm 3) (ab_eq none (h_C r)) 0 0 0 0 21 [(0, .ref 0)] [] (h_C u) := by
  unfold d_C_passNight_21 at hd
  refine v_aload_n dX0_passNight_21 rfl ?_
  refine v_dup dX0_passNight_22 rfl ?_
  refine v_get (v := .int (u 0 9)) dX0_passNight_23 fl_X0_40 rfl rfl ?_
  refine v_iconst dX0_passNight_26 ic_1 ?_
  refine v_iadd dX0_passNight_27 ?_
  refine v_topi (fun zy2 ze3 => ?_)
  have hd := dl_n hd zy2 ze3
  refine v_pti (h2 := (h_C (pw u 0 9 zy2))) dX0_passNight_28 fl_X0_40 rfl (Nat.le_of_ble_eq_true rfl) rfl ?_
  obtain rfl := Option.some.inj hd
  exact v_vretE dX0_passNight_31 rfl rfl rfl
def d_C_passNight (u : (Nat → Nat → Int32)) : Option ((Nat → Nat → Int32)) := if (((u 0 8) >>> (((u 0 9) - (u 0 9) / (7 : Int32) * (7 : Int32)) &&& 31)) &&& (1 : Int32)) = 0 then ((d_C_ask u).bind fun zr4 => d_C_passNight_21 zr4) else (d_C_passNight_21 u)
set_option maxRecDepth 100000 in
set_option maxHeartbeats 4000000 in
theorem v_C_passNight (u : (Nat → Nat → Int32)) {r : (Nat → Nat → Int32)} (hd : d_C_passNight u = some r) : Vd RX0 "passNight" cX0_passNight 1 none (rm 3) (ab_eq none (h_C r)) 0 0 0 0 0 [(0, .ref 0)] [] (h_C u) := by
  unfold d_C_passNight at hd
  refine v_aload_n dX0_passNight_0 rfl ?_
  refine v_get (v := .int (u 0 8)) dX0_passNight_1 fl_X0_37 rfl rfl ?_
  refine v_aload_n dX0_passNight_4 rfl ?_
  refine v_get (v := .int (u 0 9)) dX0_passNight_5 fl_X0_40 rfl rfl ?_
  refine v_bipush dX0_passNight_8 bp_7 ?_
  refine v_irem dX0_passNight_10 nz_7 ?_
  refine v_ishr dX0_passNight_11 ?_
  refine v_iconst dX0_passNight_12 ic_1 ?_
  refine v_iand dX0_passNight_13 ?_
  refine v_if_ne (tgt := 21) dX0_passNight_14 (by decide) (fun zc1 => ?_) (fun zc1 => ?_)
  · have hd := g_f hd zc1
    exact v_C_passNight_21 u hd
  · have hd := g_t hd zc1
    refine v_aload_n dX0_passNight_17 rfl ?_
    obtain ⟨zr4, zh5, hd⟩ := g_bind hd
    refine v_cI (dy := 2) (st := []) (st2 := []) dX0_passNight_18 mv_X0_80 (m_C_ask u zh5) rfl rfl rfl rfl rfl (by decide) (by decide) rfl rfl ?_
    exact v_C_passNight_21 zr4 hd
theorem m_C_passNight (u : (Nat → Nat → Int32)) {r : (Nat → Nat → Int32)} (hd : d_C_passNight u = some r) : Mt yX0_passNight cX0_passNight 1 none (rm 3) [.ref 0] (h_C u) (ab_eq none (h_C r)) := Mt.of (by decide +kernel) (fun _ _ _ => trivial) (Nat.le_of_ble_eq_true rfl) (v_C_passNight u hd)

def d_C_passNights_2  : Nat → (Nat → Nat → Int32) → Int32 → Int32 → Option ((Nat → Nat → Int32))
  | 0, _, _, _ => none
  | f + 1, u, x1, x2 => if x1 ≤ x2 then (some u) else ((d_C_passNight u).bind fun zr2 => dl (x2 + (1 : Int32)) fun zy4 => d_C_passNights_2 f zr2 x1 zy4)
set_option maxRecDepth 100000 in
set_option maxHeartbeats 4000000 in
theorem v_C_passNights_2  {r : (Nat → Nat → Int32)}  : ∀ (f : Nat) (u : (Nat → Nat → Int32)) (x1 : Int32) (x2 : Int32), d_C_passNights_2  f u x1 x2 = some r → Vd RX0 "passNights" cX0_passNights 3 none (rm 4) (ab_eq none (h_C r)) 0 0 0 0 2 [(0, .ref 0), (1, .int x1), (2, .int x2)] [] (h_C u) := by
  intro f
  induction f with
  | zero =>
    intro u x1 x2 hd
    rw [d_C_passNights_2] at hd
    cases hd
  | succ f ih =>
    intro u x1 x2 hd
    rw [d_C_passNights_2] at hd
    refine v_iload_n dX0_passNights_2 rfl ?_
    refine v_iload_n dX0_passNights_3 rfl ?_
    refine v_icmp_ge (tgt := 17) dX0_passNights_4 (by decide) (fun zc1 => ?_) (fun zc1 => ?_)
    · have hd := g_t hd zc1
      obtain rfl := Option.some.inj hd
      exact v_vretE dX0_passNights_17 rfl rfl rfl
    · have hd := g_f hd zc1
      refine v_aload_n dX0_passNights_7 rfl ?_
      obtain ⟨zr2, zh3, hd⟩ := g_bind hd
      refine v_cI (dy := 3) (st := []) (st2 := []) dX0_passNights_8 mv_X0_77 (m_C_passNight u zh3) rfl rfl rfl rfl rfl (by decide) (by decide) rfl rfl ?_
      obtain ⟨zy4, ze5⟩ : ∃ z : Int32, z = (x2 + (1 : Int32)) := ⟨_, rfl⟩
      have hd := dl_n hd zy4 ze5
      refine v_iinc (v := zy4) (L2 := [(2, .int zy4), (0, .ref 0), (1, .int x1)]) dX0_passNights_11 rfl (by rw [ic_1]; exact ze5.symm) (Nat.le_of_ble_eq_true rfl) rfl ?_
      refine v_goto (tgt := 2) dX0_passNights_14 (by decide) ?_
      refine v_loc [1, 2, 0] rfl ?_
      exact ih zr2 x1 zy4 hd
def d_C_passNights (u : (Nat → Nat → Int32)) (a1 : Int32) : Option ((Nat → Nat → Int32)) := d_C_passNights_2 FU u a1 (0 : Int32)
set_option maxRecDepth 100000 in
set_option maxHeartbeats 4000000 in
theorem v_C_passNights (u : (Nat → Nat → Int32)) (a1 : Int32) {r : (Nat → Nat → Int32)} (hd : d_C_passNights u a1 = some r) : Vd RX0 "passNights" cX0_passNights 3 none (rm 4) (ab_eq none (h_C r)) 0 0 0 0 0 [(0, .ref 0), (1, .int a1)] [] (h_C u) := by
  unfold d_C_passNights at hd
  refine v_iconst dX0_passNights_0 ic_0 ?_
  refine v_istore_n (i := 2) (L2 := [(2, .int (0 : Int32)), (0, .ref 0), (1, .int a1)]) dX0_passNights_1 rfl (Nat.le_of_ble_eq_true rfl) rfl ?_
  refine v_loc [1, 2, 0] rfl ?_
  exact v_C_passNights_2 FU u a1 (0 : Int32) hd
theorem m_C_passNights (u : (Nat → Nat → Int32)) (a1 : Int32) {r : (Nat → Nat → Int32)} (hd : d_C_passNights u a1 = some r) : Mt yX0_passNights cX0_passNights 3 none (rm 4) [.ref 0, .int a1] (h_C u) (ab_eq none (h_C r)) := Mt.of (by decide +kernel) (fun _ _ _ => trivial) (Nat.le_of_ble_eq_true rfl) (v_C_passNights u a1 hd)
