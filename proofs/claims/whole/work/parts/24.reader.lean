def d_R_lineByName (u : (Nat → Nat → Int32)) : Option Int32 := (d_T_nameIs (sh u 1) 0).bind fun zr1 => if zr1 = 0 then ((d_T_nameIs (sh u 1) 1).bind fun zr4 => if zr4 = 0 then ((d_T_nameIs (sh u 1) 2).bind fun zr7 => if zr7 = 0 then ((d_T_nameIs (sh u 1) 3).bind fun zr10 => if zr10 = 0 then ((d_T_nameIs (sh u 1) 4).bind fun zr13 => if zr13 = 0 then ((d_T_nameIs (sh u 1) 5).bind fun zr16 => if zr16 = 0 then ((d_T_nameIs (sh u 1) 6).bind fun zr19 => if zr19 = 0 then (some (7 : Int32)) else (some (6 : Int32))) else (some (5 : Int32))) else (some (4 : Int32))) else (some (3 : Int32))) else (some (2 : Int32))) else (some (1 : Int32))) else (some (0 : Int32))
set_option maxRecDepth 100000 in
set_option maxHeartbeats 4000000 in
theorem v_R_lineByName (u : (Nat → Nat → Int32)) {r : Int32} (hd : d_R_lineByName u = some r) : Vd RX5 "lineByName" cX5_lineByName 1 (some .int) (rm 6) (ab_eq (some (.int r)) (h_R u)) 0 0 0 0 0 [(0, .ref 0)] [] (h_R u) := by
  unfold d_R_lineByName at hd
  refine v_aload_n dX5_lineByName_0 rfl ?_
  refine v_get (v := .ref 1) dX5_lineByName_1 fl_X5_12 rfl rfl ?_
  refine v_ldcS (i := 0) dX5_lineByName_4 (by decide) rfl rfl ?_
  obtain ⟨zr1, zh2, hd⟩ := g_bind hd
  refine v_cV (dy := 5) (st := []) (st2 := [.int zr1]) (h2 := (h_R u)) [1, 2] dX5_lineByName_6 mv_X5_99 (m_T_nameIs (sh u 1) 0 (by decide) zh2) rfl rfl rfl rfl rfl rfl rfl rfl (by decide) (by decide) rfl rfl rfl ?_
  refine v_if_eq (tgt := 14) dX5_lineByName_9 (by decide) (fun zc3 => ?_) (fun zc3 => ?_)
  · have hd := g_t hd zc3
    refine v_aload_n dX5_lineByName_14 rfl ?_
    refine v_get (v := .ref 1) dX5_lineByName_15 fl_X5_12 rfl rfl ?_
    refine v_ldcS (i := 1) dX5_lineByName_18 (by decide) rfl rfl ?_
    obtain ⟨zr4, zh5, hd⟩ := g_bind hd
    refine v_cV (dy := 5) (st := []) (st2 := [.int zr4]) (h2 := (h_R u)) [1, 2] dX5_lineByName_20 mv_X5_99 (m_T_nameIs (sh u 1) 1 (by decide) zh5) rfl rfl rfl rfl rfl rfl rfl rfl (by decide) (by decide) rfl rfl rfl ?_
    refine v_if_eq (tgt := 28) dX5_lineByName_23 (by decide) (fun zc6 => ?_) (fun zc6 => ?_)
    · have hd := g_t hd zc6
      refine v_aload_n dX5_lineByName_28 rfl ?_
      refine v_get (v := .ref 1) dX5_lineByName_29 fl_X5_12 rfl rfl ?_
      refine v_ldcS (i := 2) dX5_lineByName_32 (by decide) rfl rfl ?_
      obtain ⟨zr7, zh8, hd⟩ := g_bind hd
      refine v_cV (dy := 5) (st := []) (st2 := [.int zr7]) (h2 := (h_R u)) [1, 2] dX5_lineByName_34 mv_X5_99 (m_T_nameIs (sh u 1) 2 (by decide) zh8) rfl rfl rfl rfl rfl rfl rfl rfl (by decide) (by decide) rfl rfl rfl ?_
      refine v_if_eq (tgt := 42) dX5_lineByName_37 (by decide) (fun zc9 => ?_) (fun zc9 => ?_)
      · have hd := g_t hd zc9
        refine v_aload_n dX5_lineByName_42 rfl ?_
        refine v_get (v := .ref 1) dX5_lineByName_43 fl_X5_12 rfl rfl ?_
        refine v_ldcS (i := 3) dX5_lineByName_46 (by decide) rfl rfl ?_
        obtain ⟨zr10, zh11, hd⟩ := g_bind hd
        refine v_cV (dy := 5) (st := []) (st2 := [.int zr10]) (h2 := (h_R u)) [1, 2] dX5_lineByName_48 mv_X5_99 (m_T_nameIs (sh u 1) 3 (by decide) zh11) rfl rfl rfl rfl rfl rfl rfl rfl (by decide) (by decide) rfl rfl rfl ?_
        refine v_if_eq (tgt := 56) dX5_lineByName_51 (by decide) (fun zc12 => ?_) (fun zc12 => ?_)
        · have hd := g_t hd zc12
          refine v_aload_n dX5_lineByName_56 rfl ?_
          refine v_get (v := .ref 1) dX5_lineByName_57 fl_X5_12 rfl rfl ?_
          refine v_ldcS (i := 4) dX5_lineByName_60 (by decide) rfl rfl ?_
          obtain ⟨zr13, zh14, hd⟩ := g_bind hd
          refine v_cV (dy := 5) (st := []) (st2 := [.int zr13]) (h2 := (h_R u)) [1, 2] dX5_lineByName_62 mv_X5_99 (m_T_nameIs (sh u 1) 4 (by decide) zh14) rfl rfl rfl rfl rfl rfl rfl rfl (by decide) (by decide) rfl rfl rfl ?_
          refine v_if_eq (tgt := 70) dX5_lineByName_65 (by decide) (fun zc15 => ?_) (fun zc15 => ?_)
          · have hd := g_t hd zc15
            refine v_aload_n dX5_lineByName_70 rfl ?_
            refine v_get (v := .ref 1) dX5_lineByName_71 fl_X5_12 rfl rfl ?_
            refine v_ldcS (i := 5) dX5_lineByName_74 (by decide) rfl rfl ?_
            obtain ⟨zr16, zh17, hd⟩ := g_bind hd
            refine v_cV (dy := 5) (st := []) (st2 := [.int zr16]) (h2 := (h_R u)) [1, 2] dX5_lineByName_76 mv_X5_99 (m_T_nameIs (sh u 1) 5 (by decide) zh17) rfl rfl rfl rfl rfl rfl rfl rfl (by decide) (by decide) rfl rfl rfl ?_
            refine v_if_eq (tgt := 84) dX5_lineByName_79 (by decide) (fun zc18 => ?_) (fun zc18 => ?_)
            · have hd := g_t hd zc18
              refine v_aload_n dX5_lineByName_84 rfl ?_
              refine v_get (v := .ref 1) dX5_lineByName_85 fl_X5_12 rfl rfl ?_
              refine v_ldcS (i := 6) dX5_lineByName_88 (by decide) rfl rfl ?_
              obtain ⟨zr19, zh20, hd⟩ := g_bind hd
              refine v_cV (dy := 5) (st := []) (st2 := [.int zr19]) (h2 := (h_R u)) [1, 2] dX5_lineByName_90 mv_X5_99 (m_T_nameIs (sh u 1) 6 (by decide) zh20) rfl rfl rfl rfl rfl rfl rfl rfl (by decide) (by decide) rfl rfl rfl ?_
              refine v_if_eq (tgt := 101) dX5_lineByName_93 (by decide) (fun zc21 => ?_) (fun zc21 => ?_)
              · have hd := g_t hd zc21
                refine v_bipush dX5_lineByName_101 bp_7 ?_
                obtain rfl := Option.some.inj hd
                exact v_iretE dX5_lineByName_103 rfl rfl rfl rfl
              · have hd := g_f hd zc21
                refine v_bipush dX5_lineByName_96 bp_6 ?_
                refine v_goto (tgt := 103) dX5_lineByName_98 (by decide) ?_
                obtain rfl := Option.some.inj hd
                exact v_iretE dX5_lineByName_103 rfl rfl rfl rfl
            · have hd := g_f hd zc18
              refine v_iconst dX5_lineByName_82 ic_5 ?_
              obtain rfl := Option.some.inj hd
              exact v_iretE dX5_lineByName_83 rfl rfl rfl rfl
          · have hd := g_f hd zc15
            refine v_iconst dX5_lineByName_68 ic_4 ?_
            obtain rfl := Option.some.inj hd
            exact v_iretE dX5_lineByName_69 rfl rfl rfl rfl
        · have hd := g_f hd zc12
          refine v_iconst dX5_lineByName_54 ic_3 ?_
          obtain rfl := Option.some.inj hd
          exact v_iretE dX5_lineByName_55 rfl rfl rfl rfl
      · have hd := g_f hd zc9
        refine v_iconst dX5_lineByName_40 ic_2 ?_
        obtain rfl := Option.some.inj hd
        exact v_iretE dX5_lineByName_41 rfl rfl rfl rfl
    · have hd := g_f hd zc6
      refine v_iconst dX5_lineByName_26 ic_1 ?_
      obtain rfl := Option.some.inj hd
      exact v_iretE dX5_lineByName_27 rfl rfl rfl rfl
  · have hd := g_f hd zc3
    refine v_iconst dX5_lineByName_12 ic_0 ?_
    obtain rfl := Option.some.inj hd
    exact v_iretE dX5_lineByName_13 rfl rfl rfl rfl
theorem m_R_lineByName (u : (Nat → Nat → Int32)) {r : Int32} (hd : d_R_lineByName u = some r) : Mt yX5_lineByName cX5_lineByName 1 (some .int) (rm 6) [.ref 0] (h_R u) (ab_eq (some (.int r)) (h_R u)) := Mt.of (by decide +kernel) (fun _ _ _ => trivial) (Nat.le_of_ble_eq_true rfl) (v_R_lineByName u hd)
def d_R_fail (u : (Nat → Nat → Int32)) (a1 : Int32) (a2 : Int32) : Option ((Nat → Nat → Int32)) := if (u 0 7) = 0 then (some (pw (pw u 0 7 a1) 0 8 a2)) else (some u)
set_option maxRecDepth 100000 in
set_option maxHeartbeats 4000000 in
theorem v_R_fail (u : (Nat → Nat → Int32)) (a1 : Int32) (a2 : Int32) {r : (Nat → Nat → Int32)} (hd : d_R_fail u a1 a2 = some r) : Vd RX5 "fail" cX5_fail 3 none (rm 0) (ab_eq none (h_R r)) 0 0 0 0 0 [(0, .ref 0), (1, .int a1), (2, .int a2)] [] (h_R u) := by
  unfold d_R_fail at hd
  refine v_aload_n dX5_fail_0 rfl ?_
  refine v_get (v := .int (u 0 7)) dX5_fail_1 fl_X5_49 rfl rfl ?_
  refine v_if_ne (tgt := 17) dX5_fail_4 (by decide) (fun zc1 => ?_) (fun zc1 => ?_)
  · have hd := g_f hd zc1
    obtain rfl := Option.some.inj hd
    exact v_vretE dX5_fail_17 rfl rfl rfl
  · have hd := g_t hd zc1
    refine v_aload_n dX5_fail_7 rfl ?_
    refine v_iload_n dX5_fail_8 rfl ?_
    refine v_pti (h2 := (h_R (pw u 0 7 a1))) dX5_fail_9 fl_X5_49 rfl (Nat.le_of_ble_eq_true rfl) rfl ?_
    refine v_aload_n dX5_fail_12 rfl ?_
    refine v_iload_n dX5_fail_13 rfl ?_
    refine v_pti (h2 := (h_R (pw (pw u 0 7 a1) 0 8 a2))) dX5_fail_14 fl_X5_66 rfl (Nat.le_of_ble_eq_true rfl) rfl ?_
    obtain rfl := Option.some.inj hd
    exact v_vretE dX5_fail_17 rfl rfl rfl
theorem m_R_fail (u : (Nat → Nat → Int32)) (a1 : Int32) (a2 : Int32) {r : (Nat → Nat → Int32)} (hd : d_R_fail u a1 a2 = some r) : Mt yX5_fail cX5_fail 3 none (rm 0) [.ref 0, .int a1, .int a2] (h_R u) (ab_eq none (h_R r)) := Mt.of (by decide +kernel) (fun _ _ _ => trivial) (Nat.le_of_ble_eq_true rfl) (v_R_fail u a1 a2 hd)

def d_R_refuseToken_11  (u : (Nat → Nat → Int32)) (s1 : Int32) : Option ((Nat → Nat → Int32)) := (d_R_fail u s1 (u 1 3)).bind fun zr2 => some zr2
set_option maxRecDepth 100000 in
set_option maxHeartbeats 4000000 in
theorem v_R_refuseToken_11  {r : (Nat → Nat → Int32)}  (u : (Nat → Nat → Int32)) (s1 : Int32) (hd : d_R_refuseToken_11  u s1 = some r) : Vd RX5 "refuseToken" cX5_refuseToken 2 none (rm 1) (ab_eq none (h_R r)) 0 0 0 0 11 [(0, .ref 0)] [.int s1, .ref 0] (h_R u) := by
  unfold d_R_refuseToken_11 at hd
  refine v_aload_n dX5_refuseToken_11 rfl ?_
  refine v_get (v := .ref 1) dX5_refuseToken_12 fl_X5_12 rfl rfl ?_
  refine v_get (v := .int (u 1 3)) dX5_refuseToken_15 fl_X5_69 rfl rfl ?_
  obtain ⟨zr2, zh3, hd⟩ := g_bind hd
  refine v_cI (dy := 0) (st := []) (st2 := []) dX5_refuseToken_18 mv_X5_72 (m_R_fail u s1 (u 1 3) zh3) rfl rfl rfl rfl rfl (by decide) (by decide) rfl rfl ?_
  obtain rfl := Option.some.inj hd
  exact v_vretE dX5_refuseToken_21 rfl rfl rfl
def d_R_refuseToken (u : (Nat → Nat → Int32)) (a1 : Int32) : Option ((Nat → Nat → Int32)) := if a1 = (4 : Int32) then (d_R_refuseToken_11 u (1 : Int32)) else (d_R_refuseToken_11 u (2 : Int32))
set_option maxRecDepth 100000 in
set_option maxHeartbeats 4000000 in
theorem v_R_refuseToken (u : (Nat → Nat → Int32)) (a1 : Int32) {r : (Nat → Nat → Int32)} (hd : d_R_refuseToken u a1 = some r) : Vd RX5 "refuseToken" cX5_refuseToken 2 none (rm 1) (ab_eq none (h_R r)) 0 0 0 0 0 [(0, .ref 0), (1, .int a1)] [] (h_R u) := by
  unfold d_R_refuseToken at hd
  refine v_aload_n dX5_refuseToken_0 rfl ?_
  refine v_iload_n dX5_refuseToken_1 rfl ?_
  refine v_iconst dX5_refuseToken_2 ic_4 ?_
  refine v_icmp_ne (tgt := 10) dX5_refuseToken_3 (by decide) (fun zc1 => ?_) (fun zc1 => ?_)
  · have hd := g_f hd zc1
    refine v_iconst dX5_refuseToken_10 ic_2 ?_
    refine v_loc [0] rfl ?_
    exact v_R_refuseToken_11 u (2 : Int32) hd
  · have hd := g_t hd zc1
    refine v_iconst dX5_refuseToken_6 ic_1 ?_
    refine v_goto (tgt := 11) dX5_refuseToken_7 (by decide) ?_
    refine v_loc [0] rfl ?_
    exact v_R_refuseToken_11 u (1 : Int32) hd
theorem m_R_refuseToken (u : (Nat → Nat → Int32)) (a1 : Int32) {r : (Nat → Nat → Int32)} (hd : d_R_refuseToken u a1 = some r) : Mt yX5_refuseToken cX5_refuseToken 2 none (rm 1) [.ref 0, .int a1] (h_R u) (ab_eq none (h_R r)) := Mt.of (by decide +kernel) (fun _ _ _ => trivial) (Nat.le_of_ble_eq_true rfl) (v_R_refuseToken u a1 hd)
def d_R_takeNumber (u : (Nat → Nat → Int32)) (a1 : Int32) (a2 : Int32) : Option (Int32 × (Nat → Nat → Int32)) := if (u 0 7) = 0 then ((d_T_takeToken (sh u 1)).bind fun zr2 => if zr2.1 = (2 : Int32) then ((d_T_number (sh (pt u 1 2 zr2.2) 1)).bind fun zr5 => (d_P_outside zr5 a1 a2).bind fun zr7 => if zr7 = 0 then (some (zr5, (pt u 1 2 zr2.2))) else ((d_R_fail (pt u 1 2 zr2.2) (3 : Int32) (zr2.2 0 3)).bind fun zr10 => some (a1, zr10))) else ((d_R_refuseToken (pt u 1 2 zr2.2) zr2.1).bind fun zr12 => some (a1, zr12))) else (some (a1, u))
set_option maxRecDepth 100000 in
set_option maxHeartbeats 4000000 in
theorem v_R_takeNumber (u : (Nat → Nat → Int32)) (a1 : Int32) (a2 : Int32) {r : Int32 × (Nat → Nat → Int32)} (hd : d_R_takeNumber u a1 a2 = some r) : Vd RX5 "takeNumber" cX5_takeNumber 5 (some .int) (rm 2) (ab_eq (some (.int r.1)) (h_R r.2)) 0 0 0 0 0 [(0, .ref 0), (1, .int a1), (2, .int a2)] [] (h_R u) := by
  unfold d_R_takeNumber at hd
  refine v_aload_n dX5_takeNumber_0 rfl ?_
  refine v_get (v := .int (u 0 7)) dX5_takeNumber_1 fl_X5_49 rfl rfl ?_
  refine v_if_eq (tgt := 9) dX5_takeNumber_4 (by decide) (fun zc1 => ?_) (fun zc1 => ?_)
  · have hd := g_t hd zc1
    refine v_aload_n dX5_takeNumber_9 rfl ?_
    refine v_get (v := .ref 1) dX5_takeNumber_10 fl_X5_12 rfl rfl ?_
    obtain ⟨zr2, zh3, hd⟩ := g_bind hd
    refine v_cV (dy := 1) (st := []) (st2 := [.int zr2.1]) (h2 := (h_R (pt u 1 2 zr2.2))) [1, 2] dX5_takeNumber_13 mv_X5_52 (m_T_takeToken (sh u 1) zh3) rfl rfl rfl rfl rfl rfl rfl rfl (by decide) (by decide) rfl rfl rfl ?_
    refine v_istore_n (i := 3) (L2 := [(3, .int zr2.1), (0, .ref 0), (1, .int a1), (2, .int a2)]) dX5_takeNumber_16 rfl (Nat.le_of_ble_eq_true rfl) rfl ?_
    refine v_iload_n dX5_takeNumber_17 rfl ?_
    refine v_iconst dX5_takeNumber_18 ic_2 ?_
    refine v_icmp_eq (tgt := 29) dX5_takeNumber_19 (by decide) (fun zc4 => ?_) (fun zc4 => ?_)
    · have hd := g_t hd zc4
      refine v_aload_n dX5_takeNumber_29 rfl ?_
      refine v_get (v := .ref 1) dX5_takeNumber_30 fl_X5_12 rfl rfl ?_
      obtain ⟨zr5, zh6, hd⟩ := g_bind hd
      refine v_cV (dy := 0) (st := []) (st2 := [.int zr5]) (h2 := (h_R (pt u 1 2 zr2.2))) [1, 2] dX5_takeNumber_33 mv_X5_115 (m_T_number (sh (pt u 1 2 zr2.2) 1) zh6) rfl rfl rfl rfl rfl rfl rfl rfl (by decide) (by decide) rfl rfl rfl ?_
      refine v_istore (i := 4) (L2 := [(4, .int zr5), (3, .int zr2.1), (0, .ref 0), (1, .int a1), (2, .int a2)]) dX5_takeNumber_36 (Nat.le_of_ble_eq_true rfl) rfl ?_
      refine v_iload dX5_takeNumber_38 rfl ?_
      refine v_iload_n dX5_takeNumber_40 rfl ?_
      refine v_iload_n dX5_takeNumber_41 rfl ?_
      obtain ⟨zr7, zh8, hd⟩ := g_bind hd
      refine v_cN (dy := 0) (st := []) (st2 := [.int zr7]) (h2 := (h_R (pt u 1 2 zr2.2))) [] dX5_takeNumber_42 mn_X5_118 (m_P_outside zr5 a1 a2 zh8) rfl rfl rfl rfl rfl rfl (by decide) (by decide) rfl rfl rfl ?_
      refine v_if_eq (tgt := 62) dX5_takeNumber_45 (by decide) (fun zc9 => ?_) (fun zc9 => ?_)
      · have hd := g_t hd zc9
        refine v_iload dX5_takeNumber_62 rfl ?_
        obtain rfl := Option.some.inj hd
        exact v_iretE dX5_takeNumber_64 rfl rfl rfl rfl
      · have hd := g_f hd zc9
        refine v_aload_n dX5_takeNumber_48 rfl ?_
        refine v_iconst dX5_takeNumber_49 ic_3 ?_
        refine v_aload_n dX5_takeNumber_50 rfl ?_
        refine v_get (v := .ref 1) dX5_takeNumber_51 fl_X5_12 rfl rfl ?_
        refine v_get (v := .int (zr2.2 0 3)) dX5_takeNumber_54 fl_X5_69 rfl rfl ?_
        obtain ⟨zr10, zh11, hd⟩ := g_bind hd
        refine v_cI (dy := 0) (st := []) (st2 := []) dX5_takeNumber_57 mv_X5_72 (m_R_fail (pt u 1 2 zr2.2) (3 : Int32) (zr2.2 0 3) zh11) rfl rfl rfl rfl rfl (by decide) (by decide) rfl rfl ?_
        refine v_iload_n dX5_takeNumber_60 rfl ?_
        obtain rfl := Option.some.inj hd
        exact v_iretE dX5_takeNumber_61 rfl rfl rfl rfl
    · have hd := g_f hd zc4
      refine v_aload_n dX5_takeNumber_22 rfl ?_
      refine v_iload_n dX5_takeNumber_23 rfl ?_
      obtain ⟨zr12, zh13, hd⟩ := g_bind hd
      refine v_cI (dy := 1) (st := []) (st2 := []) dX5_takeNumber_24 mv_X5_79 (m_R_refuseToken (pt u 1 2 zr2.2) zr2.1 zh13) rfl rfl rfl rfl rfl (by decide) (by decide) rfl rfl ?_
      refine v_iload_n dX5_takeNumber_27 rfl ?_
      obtain rfl := Option.some.inj hd
      exact v_iretE dX5_takeNumber_28 rfl rfl rfl rfl
  · have hd := g_f hd zc1
    refine v_iload_n dX5_takeNumber_7 rfl ?_
    obtain rfl := Option.some.inj hd
    exact v_iretE dX5_takeNumber_8 rfl rfl rfl rfl
theorem m_R_takeNumber (u : (Nat → Nat → Int32)) (a1 : Int32) (a2 : Int32) {r : Int32 × (Nat → Nat → Int32)} (hd : d_R_takeNumber u a1 a2 = some r) : Mt yX5_takeNumber cX5_takeNumber 5 (some .int) (rm 2) [.ref 0, .int a1, .int a2] (h_R u) (ab_eq (some (.int r.1)) (h_R r.2)) := Mt.of (by decide +kernel) (fun _ _ _ => trivial) (Nat.le_of_ble_eq_true rfl) (v_R_takeNumber u a1 a2 hd)
def d_R_takeFire (u : (Nat → Nat → Int32)) : Option ((Nat → Nat → Int32)) := if (u 0 5) = 0 then ((d_R_takeNumber (pw u 0 5 (1 : Int32)) (0 : Int32) (4 : Int32)).bind fun zr2 => (d_R_takeNumber (pw zr2.2 3 5 zr2.1) (0 : Int32) (20 : Int32)).bind fun zr4 => (d_R_takeNumber (pw zr4.2 3 6 zr4.1) (0 : Int32) (9 : Int32)).bind fun zr6 => some (pw zr6.2 3 7 zr6.1)) else ((d_R_fail u (4 : Int32) (u 1 3)).bind fun zr8 => some zr8)
set_option maxRecDepth 100000 in
set_option maxHeartbeats 4000000 in
theorem v_R_takeFire (u : (Nat → Nat → Int32)) {r : (Nat → Nat → Int32)} (hd : d_R_takeFire u = some r) : Vd RX5 "takeFire" cX5_takeFire 1 none (rm 3) (ab_eq none (h_R r)) 0 0 0 0 0 [(0, .ref 0)] [] (h_R u) := by
  unfold d_R_takeFire at hd
  refine v_aload_n dX5_takeFire_0 rfl ?_
  refine v_get (v := .int (u 0 5)) dX5_takeFire_1 fl_X5_42 rfl rfl ?_
  refine v_if_eq (tgt := 20) dX5_takeFire_4 (by decide) (fun zc1 => ?_) (fun zc1 => ?_)
  · have hd := g_t hd zc1
    refine v_aload_n dX5_takeFire_20 rfl ?_
    refine v_iconst dX5_takeFire_21 ic_1 ?_
    refine v_ptz (h2 := (h_R (pw u 0 5 (1 : Int32)))) dX5_takeFire_22 fl_X5_42 rfl (Or.inr rfl) (Nat.le_of_ble_eq_true rfl) rfl ?_
    refine v_aload_n dX5_takeFire_25 rfl ?_
    refine v_get (v := .ref 3) dX5_takeFire_26 fl_X5_21 rfl rfl ?_
    refine v_aload_n dX5_takeFire_29 rfl ?_
    refine v_iconst dX5_takeFire_30 ic_0 ?_
    refine v_iconst dX5_takeFire_31 ic_4 ?_
    obtain ⟨zr2, zh3, hd⟩ := g_bind hd
    refine v_cI (dy := 2) (st := [.ref 3]) (st2 := [.int zr2.1, .ref 3]) dX5_takeFire_32 mv_X5_125 (m_R_takeNumber (pw u 0 5 (1 : Int32)) (0 : Int32) (4 : Int32) zh3) rfl rfl rfl rfl rfl (by decide) (by decide) rfl rfl ?_
    refine v_pti (h2 := (h_R (pw zr2.2 3 5 zr2.1))) dX5_takeFire_35 fl_X5_132 rfl (Nat.le_of_ble_eq_true rfl) rfl ?_
    refine v_aload_n dX5_takeFire_38 rfl ?_
    refine v_get (v := .ref 3) dX5_takeFire_39 fl_X5_21 rfl rfl ?_
    refine v_aload_n dX5_takeFire_42 rfl ?_
    refine v_iconst dX5_takeFire_43 ic_0 ?_
    refine v_bipush dX5_takeFire_44 bp_20 ?_
    obtain ⟨zr4, zh5, hd⟩ := g_bind hd
    refine v_cI (dy := 2) (st := [.ref 3]) (st2 := [.int zr4.1, .ref 3]) dX5_takeFire_46 mv_X5_125 (m_R_takeNumber (pw zr2.2 3 5 zr2.1) (0 : Int32) (20 : Int32) zh5) rfl rfl rfl rfl rfl (by decide) (by decide) rfl rfl ?_
    refine v_pti (h2 := (h_R (pw zr4.2 3 6 zr4.1))) dX5_takeFire_49 fl_X5_135 rfl (Nat.le_of_ble_eq_true rfl) rfl ?_
    refine v_aload_n dX5_takeFire_52 rfl ?_
    refine v_get (v := .ref 3) dX5_takeFire_53 fl_X5_21 rfl rfl ?_
    refine v_aload_n dX5_takeFire_56 rfl ?_
    refine v_iconst dX5_takeFire_57 ic_0 ?_
    refine v_bipush dX5_takeFire_58 bp_9 ?_
    obtain ⟨zr6, zh7, hd⟩ := g_bind hd
    refine v_cI (dy := 2) (st := [.ref 3]) (st2 := [.int zr6.1, .ref 3]) dX5_takeFire_60 mv_X5_125 (m_R_takeNumber (pw zr4.2 3 6 zr4.1) (0 : Int32) (9 : Int32) zh7) rfl rfl rfl rfl rfl (by decide) (by decide) rfl rfl ?_
    refine v_pti (h2 := (h_R (pw zr6.2 3 7 zr6.1))) dX5_takeFire_63 fl_X5_138 rfl (Nat.le_of_ble_eq_true rfl) rfl ?_
    obtain rfl := Option.some.inj hd
    exact v_vretE dX5_takeFire_66 rfl rfl rfl
  · have hd := g_f hd zc1
    refine v_aload_n dX5_takeFire_7 rfl ?_
    refine v_iconst dX5_takeFire_8 ic_4 ?_
    refine v_aload_n dX5_takeFire_9 rfl ?_
    refine v_get (v := .ref 1) dX5_takeFire_10 fl_X5_12 rfl rfl ?_
    refine v_get (v := .int (u 1 3)) dX5_takeFire_13 fl_X5_69 rfl rfl ?_
    obtain ⟨zr8, zh9, hd⟩ := g_bind hd
    refine v_cI (dy := 0) (st := []) (st2 := []) dX5_takeFire_16 mv_X5_72 (m_R_fail u (4 : Int32) (u 1 3) zh9) rfl rfl rfl rfl rfl (by decide) (by decide) rfl rfl ?_
    obtain rfl := Option.some.inj hd
    exact v_vretE dX5_takeFire_19 rfl rfl rfl
theorem m_R_takeFire (u : (Nat → Nat → Int32)) {r : (Nat → Nat → Int32)} (hd : d_R_takeFire u = some r) : Mt yX5_takeFire cX5_takeFire 1 none (rm 3) [.ref 0] (h_R u) (ab_eq none (h_R r)) := Mt.of (by decide +kernel) (fun _ _ _ => trivial) (Nat.le_of_ble_eq_true rfl) (v_R_takeFire u hd)

def d_R_takeRain_34  (u : (Nat → Nat → Int32)) (x1 : Int32) : Option ((Nat → Nat → Int32)) := dl ((u 3 8) ||| x1) fun zy6 => some (pw u 3 8 zy6)
set_option maxRecDepth 100000 in
set_option maxHeartbeats 4000000 in
theorem v_R_takeRain_34  {r : (Nat → Nat → Int32)}  (u : (Nat → Nat → Int32)) (x1 : Int32) (hd : d_R_takeRain_34  u x1 = some r) : Vd RX5 "takeRain" cX5_takeRain 2 none (rm 3) (ab_eq none (h_R r)) 0 0 0 0 34 [(0, .ref 0), (1, .int x1)] [] (h_R u) := by
  unfold d_R_takeRain_34 at hd
  refine v_aload_n dX5_takeRain_34 rfl ?_
  refine v_get (v := .ref 3) dX5_takeRain_35 fl_X5_21 rfl rfl ?_
  refine v_dup dX5_takeRain_38 rfl ?_
  refine v_get (v := .int (u 3 8)) dX5_takeRain_39 fl_X5_141 rfl rfl ?_
  refine v_iload_n dX5_takeRain_42 rfl ?_
  refine v_ior dX5_takeRain_43 ?_
  refine v_topi (fun zy6 ze7 => ?_)
  have hd := dl_n hd zy6 ze7
  refine v_pti (h2 := (h_R (pw u 3 8 zy6))) dX5_takeRain_44 fl_X5_141 rfl (Nat.le_of_ble_eq_true rfl) rfl ?_
  obtain rfl := Option.some.inj hd
  exact v_vretE dX5_takeRain_47 rfl rfl rfl
def d_R_takeRain (u : (Nat → Nat → Int32)) : Option ((Nat → Nat → Int32)) := (d_R_takeNumber u (0 : Int32) (6 : Int32)).bind fun zr1 => dl ((1 : Int32) <<< (zr1.1 &&& 31)) fun zy3 => if ((zr1.2 3 8) &&& zy3) = 0 then (d_R_takeRain_34 zr1.2 zy3) else ((d_R_fail zr1.2 (4 : Int32) (zr1.2 1 3)).bind fun zr8 => d_R_takeRain_34 zr8 zy3)
set_option maxRecDepth 100000 in
set_option maxHeartbeats 4000000 in
theorem v_R_takeRain (u : (Nat → Nat → Int32)) {r : (Nat → Nat → Int32)} (hd : d_R_takeRain u = some r) : Vd RX5 "takeRain" cX5_takeRain 2 none (rm 3) (ab_eq none (h_R r)) 0 0 0 0 0 [(0, .ref 0)] [] (h_R u) := by
  unfold d_R_takeRain at hd
  refine v_iconst dX5_takeRain_0 ic_1 ?_
  refine v_aload_n dX5_takeRain_1 rfl ?_
  refine v_iconst dX5_takeRain_2 ic_0 ?_
  refine v_bipush dX5_takeRain_3 bp_6 ?_
  obtain ⟨zr1, zh2, hd⟩ := g_bind hd
  refine v_cI (dy := 2) (st := [.int (1 : Int32)]) (st2 := [.int zr1.1, .int (1 : Int32)]) dX5_takeRain_5 mv_X5_125 (m_R_takeNumber u (0 : Int32) (6 : Int32) zh2) rfl rfl rfl rfl rfl (by decide) (by decide) rfl rfl ?_
  refine v_ishl dX5_takeRain_8 ?_
  refine v_topi (fun zy3 ze4 => ?_)
  have hd := dl_n hd zy3 ze4
  refine v_istore_n (i := 1) (L2 := [(1, .int zy3), (0, .ref 0)]) dX5_takeRain_9 rfl (Nat.le_of_ble_eq_true rfl) rfl ?_
  refine v_aload_n dX5_takeRain_10 rfl ?_
  refine v_get (v := .ref 3) dX5_takeRain_11 fl_X5_21 rfl rfl ?_
  refine v_get (v := .int (zr1.2 3 8)) dX5_takeRain_14 fl_X5_141 rfl rfl ?_
  refine v_iload_n dX5_takeRain_17 rfl ?_
  refine v_iand dX5_takeRain_18 ?_
  refine v_if_eq (tgt := 34) dX5_takeRain_19 (by decide) (fun zc5 => ?_) (fun zc5 => ?_)
  · have hd := g_t hd zc5
    refine v_loc [1, 0] rfl ?_
    exact v_R_takeRain_34 zr1.2 zy3 hd
  · have hd := g_f hd zc5
    refine v_aload_n dX5_takeRain_22 rfl ?_
    refine v_iconst dX5_takeRain_23 ic_4 ?_
    refine v_aload_n dX5_takeRain_24 rfl ?_
    refine v_get (v := .ref 1) dX5_takeRain_25 fl_X5_12 rfl rfl ?_
    refine v_get (v := .int (zr1.2 1 3)) dX5_takeRain_28 fl_X5_69 rfl rfl ?_
    obtain ⟨zr8, zh9, hd⟩ := g_bind hd
    refine v_cI (dy := 0) (st := []) (st2 := []) dX5_takeRain_31 mv_X5_72 (m_R_fail zr1.2 (4 : Int32) (zr1.2 1 3) zh9) rfl rfl rfl rfl rfl (by decide) (by decide) rfl rfl ?_
    refine v_loc [1, 0] rfl ?_
    exact v_R_takeRain_34 zr8 zy3 hd
theorem m_R_takeRain (u : (Nat → Nat → Int32)) {r : (Nat → Nat → Int32)} (hd : d_R_takeRain u = some r) : Mt yX5_takeRain cX5_takeRain 2 none (rm 3) [.ref 0] (h_R u) (ab_eq none (h_R r)) := Mt.of (by decide +kernel) (fun _ _ _ => trivial) (Nat.le_of_ble_eq_true rfl) (v_R_takeRain u hd)
def d_R_takeOffer (u : (Nat → Nat → Int32)) : Option ((Nat → Nat → Int32)) := if (u 0 4) < (4 : Int32) then ((d_R_takeNumber u (0 : Int32) (4 : Int32)).bind fun zr2 => if gi (u 0 4) 4 = true then (d_R_takeNumber (pw zr2.2 8 (u 0 4).toNatClampNeg zr2.1) (1 : Int32) (20 : Int32)).bind fun zr5 => if gi (zr2.2 0 4) 4 = true then dl ((zr5.2 0 4) + (1 : Int32)) fun zy8 => some (pw (pw zr5.2 9 (zr2.2 0 4).toNatClampNeg zr5.1) 0 4 zy8) else none else none) else ((d_R_fail u (5 : Int32) (u 1 3)).bind fun zr10 => some zr10)
set_option maxRecDepth 100000 in
set_option maxHeartbeats 4000000 in
theorem v_R_takeOffer (u : (Nat → Nat → Int32)) {r : (Nat → Nat → Int32)} (hd : d_R_takeOffer u = some r) : Vd RX5 "takeOffer" cX5_takeOffer 1 none (rm 3) (ab_eq none (h_R r)) 0 0 0 0 0 [(0, .ref 0)] [] (h_R u) := by
  unfold d_R_takeOffer at hd
  refine v_aload_n dX5_takeOffer_0 rfl ?_
  refine v_get (v := .int (u 0 4)) dX5_takeOffer_1 fl_X5_38 rfl rfl ?_
  refine v_iconst dX5_takeOffer_4 ic_4 ?_
  refine v_icmp_lt (tgt := 21) dX5_takeOffer_5 (by decide) (fun zc1 => ?_) (fun zc1 => ?_)
  · have hd := g_t hd zc1
    refine v_aload_n dX5_takeOffer_21 rfl ?_
    refine v_get (v := .ref 8) dX5_takeOffer_22 fl_X5_25 rfl rfl ?_
    refine v_aload_n dX5_takeOffer_25 rfl ?_
    refine v_get (v := .int (u 0 4)) dX5_takeOffer_26 fl_X5_38 rfl rfl ?_
    refine v_aload_n dX5_takeOffer_29 rfl ?_
    refine v_iconst dX5_takeOffer_30 ic_0 ?_
    refine v_iconst dX5_takeOffer_31 ic_4 ?_
    obtain ⟨zr2, zh3, hd⟩ := g_bind hd
    refine v_cI (dy := 2) (st := [.int (u 0 4), .ref 8]) (st2 := [.int zr2.1, .int (u 0 4), .ref 8]) dX5_takeOffer_32 mv_X5_125 (m_R_takeNumber u (0 : Int32) (4 : Int32) zh3) rfl rfl rfl rfl rfl (by decide) (by decide) rfl rfl ?_
    obtain ⟨zg4, hd⟩ := g_b hd
    refine v_ist (f := (zr2.2 8)) (h2 := (h_R (pw zr2.2 8 (u 0 4).toNatClampNeg zr2.1))) dX5_takeOffer_35 rfl (gi_in zg4) rfl ?_
    refine v_aload_n dX5_takeOffer_36 rfl ?_
    refine v_get (v := .ref 9) dX5_takeOffer_37 fl_X5_29 rfl rfl ?_
    refine v_aload_n dX5_takeOffer_40 rfl ?_
    refine v_get (v := .int (zr2.2 0 4)) dX5_takeOffer_41 fl_X5_38 rfl rfl ?_
    refine v_aload_n dX5_takeOffer_44 rfl ?_
    refine v_iconst dX5_takeOffer_45 ic_1 ?_
    refine v_bipush dX5_takeOffer_46 bp_20 ?_
    obtain ⟨zr5, zh6, hd⟩ := g_bind hd
    refine v_cI (dy := 2) (st := [.int (zr2.2 0 4), .ref 9]) (st2 := [.int zr5.1, .int (zr2.2 0 4), .ref 9]) dX5_takeOffer_48 mv_X5_125 (m_R_takeNumber (pw zr2.2 8 (u 0 4).toNatClampNeg zr2.1) (1 : Int32) (20 : Int32) zh6) rfl rfl rfl rfl rfl (by decide) (by decide) rfl rfl ?_
    obtain ⟨zg7, hd⟩ := g_b hd
    refine v_ist (f := (zr5.2 9)) (h2 := (h_R (pw zr5.2 9 (zr2.2 0 4).toNatClampNeg zr5.1))) dX5_takeOffer_51 rfl (gi_in zg7) rfl ?_
    refine v_aload_n dX5_takeOffer_52 rfl ?_
    refine v_dup dX5_takeOffer_53 rfl ?_
    refine v_get (v := .int (zr5.2 0 4)) dX5_takeOffer_54 fl_X5_38 rfl rfl ?_
    refine v_iconst dX5_takeOffer_57 ic_1 ?_
    refine v_iadd dX5_takeOffer_58 ?_
    refine v_topi (fun zy8 ze9 => ?_)
    have hd := dl_n hd zy8 ze9
    refine v_pti (h2 := (h_R (pw (pw zr5.2 9 (zr2.2 0 4).toNatClampNeg zr5.1) 0 4 zy8))) dX5_takeOffer_59 fl_X5_38 rfl (Nat.le_of_ble_eq_true rfl) rfl ?_
    obtain rfl := Option.some.inj hd
    exact v_vretE dX5_takeOffer_62 rfl rfl rfl
  · have hd := g_f hd zc1
    refine v_aload_n dX5_takeOffer_8 rfl ?_
    refine v_iconst dX5_takeOffer_9 ic_5 ?_
    refine v_aload_n dX5_takeOffer_10 rfl ?_
    refine v_get (v := .ref 1) dX5_takeOffer_11 fl_X5_12 rfl rfl ?_
    refine v_get (v := .int (u 1 3)) dX5_takeOffer_14 fl_X5_69 rfl rfl ?_
    obtain ⟨zr10, zh11, hd⟩ := g_bind hd
    refine v_cI (dy := 0) (st := []) (st2 := []) dX5_takeOffer_17 mv_X5_72 (m_R_fail u (5 : Int32) (u 1 3) zh11) rfl rfl rfl rfl rfl (by decide) (by decide) rfl rfl ?_
    obtain rfl := Option.some.inj hd
    exact v_vretE dX5_takeOffer_20 rfl rfl rfl
theorem m_R_takeOffer (u : (Nat → Nat → Int32)) {r : (Nat → Nat → Int32)} (hd : d_R_takeOffer u = some r) : Mt yX5_takeOffer cX5_takeOffer 1 none (rm 3) [.ref 0] (h_R u) (ab_eq none (h_R r)) := Mt.of (by decide +kernel) (fun _ _ _ => trivial) (Nat.le_of_ble_eq_true rfl) (v_R_takeOffer u hd)
def d_R_takeHouse (u : (Nat → Nat → Int32)) (a1 : Int32) : Option ((Nat → Nat → Int32)) := if (u 3 4) < (5 : Int32) then ((d_R_takeNumber u (0 : Int32) (99 : Int32)).bind fun zr2 => (d_C_addHouse (sh zr2.2 3) a1 zr2.1).bind fun zr4 => some (pt zr2.2 3 5 zr4)) else ((d_R_fail u (5 : Int32) (u 1 3)).bind fun zr6 => some zr6)
set_option maxRecDepth 100000 in
set_option maxHeartbeats 4000000 in
theorem v_R_takeHouse (u : (Nat → Nat → Int32)) (a1 : Int32) {r : (Nat → Nat → Int32)} (hd : d_R_takeHouse u a1 = some r) : Vd RX5 "takeHouse" cX5_takeHouse 2 none (rm 3) (ab_eq none (h_R r)) 0 0 0 0 0 [(0, .ref 0), (1, .int a1)] [] (h_R u) := by
  unfold d_R_takeHouse at hd
  refine v_aload_n dX5_takeHouse_0 rfl ?_
  refine v_get (v := .ref 3) dX5_takeHouse_1 fl_X5_21 rfl rfl ?_
  refine v_get (v := .int (u 3 4)) dX5_takeHouse_4 fl_X5_122 rfl rfl ?_
  refine v_iconst dX5_takeHouse_7 ic_5 ?_
  refine v_icmp_lt (tgt := 24) dX5_takeHouse_8 (by decide) (fun zc1 => ?_) (fun zc1 => ?_)
  · have hd := g_t hd zc1
    refine v_aload_n dX5_takeHouse_24 rfl ?_
    refine v_get (v := .ref 3) dX5_takeHouse_25 fl_X5_21 rfl rfl ?_
    refine v_iload_n dX5_takeHouse_28 rfl ?_
    refine v_aload_n dX5_takeHouse_29 rfl ?_
    refine v_iconst dX5_takeHouse_30 ic_0 ?_
    refine v_bipush dX5_takeHouse_31 bp_99 ?_
    obtain ⟨zr2, zh3, hd⟩ := g_bind hd
    refine v_cI (dy := 2) (st := [.int a1, .ref 3]) (st2 := [.int zr2.1, .int a1, .ref 3]) dX5_takeHouse_33 mv_X5_125 (m_R_takeNumber u (0 : Int32) (99 : Int32) zh3) rfl rfl rfl rfl rfl (by decide) (by decide) rfl rfl ?_
    obtain ⟨zr4, zh5, hd⟩ := g_bind hd
    refine v_cV (dy := 0) (st := []) (st2 := []) (h2 := (h_R (pt zr2.2 3 5 zr4))) [3, 4, 5, 6, 7] dX5_takeHouse_36 mv_X5_129 (m_C_addHouse (sh zr2.2 3) a1 zr2.1 zh5) rfl rfl rfl rfl rfl rfl rfl rfl (by decide) (by decide) rfl rfl rfl ?_
    obtain rfl := Option.some.inj hd
    exact v_vretE dX5_takeHouse_39 rfl rfl rfl
  · have hd := g_f hd zc1
    refine v_aload_n dX5_takeHouse_11 rfl ?_
    refine v_iconst dX5_takeHouse_12 ic_5 ?_
    refine v_aload_n dX5_takeHouse_13 rfl ?_
    refine v_get (v := .ref 1) dX5_takeHouse_14 fl_X5_12 rfl rfl ?_
    refine v_get (v := .int (u 1 3)) dX5_takeHouse_17 fl_X5_69 rfl rfl ?_
    obtain ⟨zr6, zh7, hd⟩ := g_bind hd
    refine v_cI (dy := 0) (st := []) (st2 := []) dX5_takeHouse_20 mv_X5_72 (m_R_fail u (5 : Int32) (u 1 3) zh7) rfl rfl rfl rfl rfl (by decide) (by decide) rfl rfl ?_
    obtain rfl := Option.some.inj hd
    exact v_vretE dX5_takeHouse_23 rfl rfl rfl
theorem m_R_takeHouse (u : (Nat → Nat → Int32)) (a1 : Int32) {r : (Nat → Nat → Int32)} (hd : d_R_takeHouse u a1 = some r) : Mt yX5_takeHouse cX5_takeHouse 2 none (rm 3) [.ref 0, .int a1] (h_R u) (ab_eq none (h_R r)) := Mt.of (by decide +kernel) (fun _ _ _ => trivial) (Nat.le_of_ble_eq_true rfl) (v_R_takeHouse u a1 hd)
def d_R_takeStop (u : (Nat → Nat → Int32)) : Option ((Nat → Nat → Int32)) := (d_T_takeToken (sh u 1)).bind fun zr1 => if zr1.1 = (3 : Int32) then (some (pt u 1 2 zr1.2)) else ((d_R_refuseToken (pt u 1 2 zr1.2) zr1.1).bind fun zr4 => some zr4)
set_option maxRecDepth 100000 in
set_option maxHeartbeats 4000000 in
theorem v_R_takeStop (u : (Nat → Nat → Int32)) {r : (Nat → Nat → Int32)} (hd : d_R_takeStop u = some r) : Vd RX5 "takeStop" cX5_takeStop 2 none (rm 2) (ab_eq none (h_R r)) 0 0 0 0 0 [(0, .ref 0)] [] (h_R u) := by
  unfold d_R_takeStop at hd
  refine v_aload_n dX5_takeStop_0 rfl ?_
  refine v_get (v := .ref 1) dX5_takeStop_1 fl_X5_12 rfl rfl ?_
  obtain ⟨zr1, zh2, hd⟩ := g_bind hd
  refine v_cV (dy := 1) (st := []) (st2 := [.int zr1.1]) (h2 := (h_R (pt u 1 2 zr1.2))) [1, 2] dX5_takeStop_4 mv_X5_52 (m_T_takeToken (sh u 1) zh2) rfl rfl rfl rfl rfl rfl rfl rfl (by decide) (by decide) rfl rfl rfl ?_
  refine v_istore_n (i := 1) (L2 := [(1, .int zr1.1), (0, .ref 0)]) dX5_takeStop_7 rfl (Nat.le_of_ble_eq_true rfl) rfl ?_
  refine v_iload_n dX5_takeStop_8 rfl ?_
  refine v_iconst dX5_takeStop_9 ic_3 ?_
  refine v_icmp_eq (tgt := 18) dX5_takeStop_10 (by decide) (fun zc3 => ?_) (fun zc3 => ?_)
  · have hd := g_t hd zc3
    obtain rfl := Option.some.inj hd
    exact v_vretE dX5_takeStop_18 rfl rfl rfl
  · have hd := g_f hd zc3
    refine v_aload_n dX5_takeStop_13 rfl ?_
    refine v_iload_n dX5_takeStop_14 rfl ?_
    obtain ⟨zr4, zh5, hd⟩ := g_bind hd
    refine v_cI (dy := 1) (st := []) (st2 := []) dX5_takeStop_15 mv_X5_79 (m_R_refuseToken (pt u 1 2 zr1.2) zr1.1 zh5) rfl rfl rfl rfl rfl (by decide) (by decide) rfl rfl ?_
    obtain rfl := Option.some.inj hd
    exact v_vretE dX5_takeStop_18 rfl rfl rfl
theorem m_R_takeStop (u : (Nat → Nat → Int32)) {r : (Nat → Nat → Int32)} (hd : d_R_takeStop u = some r) : Mt yX5_takeStop cX5_takeStop 2 none (rm 2) [.ref 0] (h_R u) (ab_eq none (h_R r)) := Mt.of (by decide +kernel) (fun _ _ _ => trivial) (Nat.le_of_ble_eq_true rfl) (v_R_takeStop u hd)

def d_R_takeLine_82  (u : (Nat → Nat → Int32)) : Option ((Nat → Nat → Int32)) := if (u 0 7) = 0 then ((d_R_takeStop u).bind fun zr6 => some zr6) else (some u)
set_option maxRecDepth 100000 in
set_option maxHeartbeats 4000000 in
theorem v_R_takeLine_82  {r : (Nat → Nat → Int32)}  (u : (Nat → Nat → Int32)) (hd : d_R_takeLine_82  u = some r) : Vd RX5 "takeLine" cX5_takeLine 3 none (rm 7) (ab_eq none (h_R r)) 0 0 0 0 82 [(0, .ref 0)] [] (h_R u) := by
  unfold d_R_takeLine_82 at hd
  refine v_aload_n dX5_takeLine_82 rfl ?_
  refine v_get (v := .int (u 0 7)) dX5_takeLine_83 fl_X5_49 rfl rfl ?_
  refine v_if_ne (tgt := 93) dX5_takeLine_86 (by decide) (fun zc5 => ?_) (fun zc5 => ?_)
  · have hd := g_f hd zc5
    obtain rfl := Option.some.inj hd
    exact v_vretE dX5_takeLine_93 rfl rfl rfl
  · have hd := g_t hd zc5
    refine v_aload_n dX5_takeLine_89 rfl ?_
    obtain ⟨zr6, zh7, hd⟩ := g_bind hd
    refine v_cI (dy := 2) (st := []) (st2 := []) dX5_takeLine_90 mv_X5_94 (m_R_takeStop u zh7) rfl rfl rfl rfl rfl (by decide) (by decide) rfl rfl ?_
    obtain rfl := Option.some.inj hd
    exact v_vretE dX5_takeLine_93 rfl rfl rfl

def d_R_takeLine_14  (u : (Nat → Nat → Int32)) (x1 : Int32) (s0 : Int32) : Option ((Nat → Nat → Int32)) := if s0 = (4 : Int32) then ((d_R_takeFire u).bind fun zr3 => d_R_takeLine_82 zr3) else if s0 = (5 : Int32) then ((d_R_takeRain u).bind fun zr9 => d_R_takeLine_82 zr9) else if s0 = (6 : Int32) then ((d_R_takeOffer u).bind fun zr12 => d_R_takeLine_82 zr12) else if s0 = (7 : Int32) then ((d_R_refuseToken u x1).bind fun zr15 => d_R_takeLine_82 zr15) else ((d_R_takeHouse u s0).bind fun zr17 => d_R_takeLine_82 zr17)
set_option maxRecDepth 100000 in
set_option maxHeartbeats 4000000 in
theorem v_R_takeLine_14  {r : (Nat → Nat → Int32)}  (u : (Nat → Nat → Int32)) (x1 : Int32) (s0 : Int32) (hd : d_R_takeLine_14  u x1 s0 = some r) : Vd RX5 "takeLine" cX5_takeLine 3 none (rm 7) (ab_eq none (h_R r)) 0 0 0 0 14 [(0, .ref 0), (1, .int x1)] [.int s0] (h_R u) := by
  unfold d_R_takeLine_14 at hd
  refine v_istore_n (i := 2) (L2 := [(2, .int s0), (0, .ref 0), (1, .int x1)]) dX5_takeLine_14 rfl (Nat.le_of_ble_eq_true rfl) rfl ?_
  refine v_iload_n dX5_takeLine_15 rfl ?_
  by_cases zc2 : s0 = (4 : Int32)
  · have hd := g_t hd zc2
    refine v_tIn (4 : Int32) (tgt := 56) dX5_takeLine_16 zc2 (by decide) (by decide) rfl (by decide) ?_
    refine v_aload_n dX5_takeLine_56 rfl ?_
    obtain ⟨zr3, zh4, hd⟩ := g_bind hd
    refine v_cI (dy := 3) (st := []) (st2 := []) dX5_takeLine_57 mv_X5_82 (m_R_takeFire u zh4) rfl rfl rfl rfl rfl (by decide) (by decide) rfl rfl ?_
    refine v_goto (tgt := 82) dX5_takeLine_60 (by decide) ?_
    refine v_loc [1] rfl ?_
    exact v_R_takeLine_82 zr3 hd
  have hd := g_f hd zc2
  by_cases zc8 : s0 = (5 : Int32)
  · have hd := g_t hd zc8
    refine v_tIn (5 : Int32) (tgt := 63) dX5_takeLine_16 zc8 (by decide) (by decide) rfl (by decide) ?_
    refine v_aload_n dX5_takeLine_63 rfl ?_
    obtain ⟨zr9, zh10, hd⟩ := g_bind hd
    refine v_cI (dy := 3) (st := []) (st2 := []) dX5_takeLine_64 mv_X5_85 (m_R_takeRain u zh10) rfl rfl rfl rfl rfl (by decide) (by decide) rfl rfl ?_
    refine v_goto (tgt := 82) dX5_takeLine_67 (by decide) ?_
    refine v_loc [1] rfl ?_
    exact v_R_takeLine_82 zr9 hd
  have hd := g_f hd zc8
  by_cases zc11 : s0 = (6 : Int32)
  · have hd := g_t hd zc11
    refine v_tIn (6 : Int32) (tgt := 70) dX5_takeLine_16 zc11 (by decide) (by decide) rfl (by decide) ?_
    refine v_aload_n dX5_takeLine_70 rfl ?_
    obtain ⟨zr12, zh13, hd⟩ := g_bind hd
    refine v_cI (dy := 3) (st := []) (st2 := []) dX5_takeLine_71 mv_X5_88 (m_R_takeOffer u zh13) rfl rfl rfl rfl rfl (by decide) (by decide) rfl rfl ?_
    refine v_goto (tgt := 82) dX5_takeLine_74 (by decide) ?_
    refine v_loc [1] rfl ?_
    exact v_R_takeLine_82 zr12 hd
  have hd := g_f hd zc11
  by_cases zc14 : s0 = (7 : Int32)
  · have hd := g_t hd zc14
    refine v_tIn (7 : Int32) (tgt := 48) dX5_takeLine_16 zc14 (by decide) (by decide) rfl (by decide) ?_
    refine v_aload_n dX5_takeLine_48 rfl ?_
    refine v_iload_n dX5_takeLine_49 rfl ?_
    obtain ⟨zr15, zh16, hd⟩ := g_bind hd
    refine v_cI (dy := 1) (st := []) (st2 := []) dX5_takeLine_50 mv_X5_79 (m_R_refuseToken u x1 zh16) rfl rfl rfl rfl rfl (by decide) (by decide) rfl rfl ?_
    refine v_goto (tgt := 82) dX5_takeLine_53 (by decide) ?_
    refine v_loc [1] rfl ?_
    exact v_R_takeLine_82 zr15 hd
  have hd := g_f hd zc14
  refine v_tOut (tgt := 77) dX5_takeLine_16 (by have q0 := lv_neT (a := 4) zc2 rfl; have q1 := lv_neT (a := 5) zc8 rfl; have q2 := lv_neT (a := 6) zc11 rfl; have q3 := lv_neT (a := 7) zc14 rfl; omega) (by decide) ?_
  refine v_aload_n dX5_takeLine_77 rfl ?_
  refine v_iload_n dX5_takeLine_78 rfl ?_
  obtain ⟨zr17, zh18, hd⟩ := g_bind hd
  refine v_cI (dy := 3) (st := []) (st2 := []) dX5_takeLine_79 mv_X5_91 (m_R_takeHouse u s0 zh18) rfl rfl rfl rfl rfl (by decide) (by decide) rfl rfl ?_
  refine v_loc [1] rfl ?_
  exact v_R_takeLine_82 zr17 hd
def d_R_takeLine (u : (Nat → Nat → Int32)) (a1 : Int32) : Option ((Nat → Nat → Int32)) := if a1 = (1 : Int32) then ((d_R_lineByName u).bind fun zr19 => d_R_takeLine_14 u a1 zr19) else (d_R_takeLine_14 u a1 (7 : Int32))
set_option maxRecDepth 100000 in
set_option maxHeartbeats 4000000 in
theorem v_R_takeLine (u : (Nat → Nat → Int32)) (a1 : Int32) {r : (Nat → Nat → Int32)} (hd : d_R_takeLine u a1 = some r) : Vd RX5 "takeLine" cX5_takeLine 3 none (rm 7) (ab_eq none (h_R r)) 0 0 0 0 0 [(0, .ref 0), (1, .int a1)] [] (h_R u) := by
  unfold d_R_takeLine at hd
  refine v_iload_n dX5_takeLine_0 rfl ?_
  refine v_iconst dX5_takeLine_1 ic_1 ?_
  refine v_icmp_ne (tgt := 12) dX5_takeLine_2 (by decide) (fun zc1 => ?_) (fun zc1 => ?_)
  · have hd := g_f hd zc1
    refine v_bipush dX5_takeLine_12 bp_7 ?_
    exact v_R_takeLine_14 u a1 (7 : Int32) hd
  · have hd := g_t hd zc1
    refine v_aload_n dX5_takeLine_5 rfl ?_
    obtain ⟨zr19, zh20, hd⟩ := g_bind hd
    refine v_cI (dy := 6) (st := []) (st2 := [.int zr19]) dX5_takeLine_6 mv_X5_76 (m_R_lineByName u zh20) rfl rfl rfl rfl rfl (by decide) (by decide) rfl rfl ?_
    refine v_goto (tgt := 14) dX5_takeLine_9 (by decide) ?_
    exact v_R_takeLine_14 u a1 zr19 hd
theorem m_R_takeLine (u : (Nat → Nat → Int32)) (a1 : Int32) {r : (Nat → Nat → Int32)} (hd : d_R_takeLine u a1 = some r) : Mt yX5_takeLine cX5_takeLine 3 none (rm 7) [.ref 0, .int a1] (h_R u) (ab_eq none (h_R r)) := Mt.of (by decide +kernel) (fun _ _ _ => trivial) (Nat.le_of_ble_eq_true rfl) (v_R_takeLine u a1 hd)

def d_R_checkHouses_76 (k39 : (Nat → Nat → Int32) → Int32 → Option ((Nat → Nat → Int32))) (u : (Nat → Nat → Int32)) (x1 : Int32) : Option ((Nat → Nat → Int32)) := dl (x1 + (1 : Int32)) fun zy7 => k39 u zy7
set_option maxRecDepth 100000 in
set_option maxHeartbeats 4000000 in
theorem v_R_checkHouses_76  {r : (Nat → Nat → Int32)} (k39 : (Nat → Nat → Int32) → Int32 → Option ((Nat → Nat → Int32))) (hk39 : ∀ (u : (Nat → Nat → Int32)) (x1 : Int32), k39 u x1 = some r → Vd RX5 "checkHouses" cX5_checkHouses 2 none (rm 1) (ab_eq none (h_R r)) 0 0 0 0 39 [(0, .ref 0), (1, .int x1)] [] (h_R u)) (u : (Nat → Nat → Int32)) (x1 : Int32) (hd : d_R_checkHouses_76 k39 u x1 = some r) : Vd RX5 "checkHouses" cX5_checkHouses 2 none (rm 1) (ab_eq none (h_R r)) 0 0 0 0 76 [(0, .ref 0), (1, .int x1)] [] (h_R u) := by
  unfold d_R_checkHouses_76 at hd
  obtain ⟨zy7, ze8⟩ : ∃ z : Int32, z = (x1 + (1 : Int32)) := ⟨_, rfl⟩
  have hd := dl_n hd zy7 ze8
  refine v_iinc (v := zy7) (L2 := [(1, .int zy7), (0, .ref 0)]) dX5_checkHouses_76 rfl (by rw [ic_1]; exact ze8.symm) (Nat.le_of_ble_eq_true rfl) rfl ?_
  refine v_goto (tgt := 39) dX5_checkHouses_79 (by decide) ?_
  refine v_loc [1, 0] rfl ?_
  exact hk39 u zy7 hd

def d_R_checkHouses_39  : Nat → (Nat → Nat → Int32) → Int32 → Option ((Nat → Nat → Int32))
  | 0, _, _ => none
  | f + 1, u, x1 => if (u 0 4) ≤ x1 then (some u) else (if gi x1 4 = true then (d_C_has (sh u 3) ((u 8) x1.toNatClampNeg)).bind fun zr4 => if zr4 = 0 then ((d_R_fail u (6 : Int32) (u 1 2)).bind fun zr9 => d_R_checkHouses_76 (d_R_checkHouses_39 f) zr9 x1) else (d_R_checkHouses_76 (d_R_checkHouses_39 f) u x1) else none)
set_option maxRecDepth 100000 in
set_option maxHeartbeats 4000000 in
theorem v_R_checkHouses_39  {r : (Nat → Nat → Int32)}  : ∀ (f : Nat) (u : (Nat → Nat → Int32)) (x1 : Int32), d_R_checkHouses_39  f u x1 = some r → Vd RX5 "checkHouses" cX5_checkHouses 2 none (rm 1) (ab_eq none (h_R r)) 0 0 0 0 39 [(0, .ref 0), (1, .int x1)] [] (h_R u) := by
  intro f
  induction f with
  | zero =>
    intro u x1 hd
    rw [d_R_checkHouses_39] at hd
    cases hd
  | succ f ih =>
    intro u x1 hd
    rw [d_R_checkHouses_39] at hd
    refine v_iload_n dX5_checkHouses_39 rfl ?_
    refine v_aload_n dX5_checkHouses_40 rfl ?_
    refine v_get (v := .int (u 0 4)) dX5_checkHouses_41 fl_X5_38 rfl rfl ?_
    refine v_icmp_ge (tgt := 82) dX5_checkHouses_44 (by decide) (fun zc2 => ?_) (fun zc2 => ?_)
    · have hd := g_t hd zc2
      obtain rfl := Option.some.inj hd
      exact v_vretE dX5_checkHouses_82 rfl rfl rfl
    · have hd := g_f hd zc2
      refine v_aload_n dX5_checkHouses_47 rfl ?_
      refine v_get (v := .ref 3) dX5_checkHouses_48 fl_X5_21 rfl rfl ?_
      refine v_aload_n dX5_checkHouses_51 rfl ?_
      refine v_get (v := .ref 8) dX5_checkHouses_52 fl_X5_25 rfl rfl ?_
      refine v_iload_n dX5_checkHouses_55 rfl ?_
      obtain ⟨zg3, hd⟩ := g_b hd
      refine v_iald (f := (u 8)) dX5_checkHouses_56 rfl (gi_in zg3) ?_
      obtain ⟨zr4, zh5, hd⟩ := g_bind hd
      refine v_cV (dy := 0) (st := []) (st2 := [.int zr4]) (h2 := (h_R u)) [3, 4, 5, 6, 7] dX5_checkHouses_57 mv_X5_144 (m_C_has (sh u 3) ((u 8) x1.toNatClampNeg) zh5) rfl rfl rfl rfl rfl rfl rfl rfl (by decide) (by decide) rfl rfl rfl ?_
      refine v_if_ne (tgt := 76) dX5_checkHouses_60 (by decide) (fun zc6 => ?_) (fun zc6 => ?_)
      · have hd := g_f hd zc6
        exact v_R_checkHouses_76 (d_R_checkHouses_39 f) (ih) u x1 hd
      · have hd := g_t hd zc6
        refine v_aload_n dX5_checkHouses_63 rfl ?_
        refine v_bipush dX5_checkHouses_64 bp_6 ?_
        refine v_aload_n dX5_checkHouses_66 rfl ?_
        refine v_get (v := .ref 1) dX5_checkHouses_67 fl_X5_12 rfl rfl ?_
        refine v_get (v := .int (u 1 2)) dX5_checkHouses_70 fl_X5_148 rfl rfl ?_
        obtain ⟨zr9, zh10, hd⟩ := g_bind hd
        refine v_cI (dy := 0) (st := []) (st2 := []) dX5_checkHouses_73 mv_X5_72 (m_R_fail u (6 : Int32) (u 1 2) zh10) rfl rfl rfl rfl rfl (by decide) (by decide) rfl rfl ?_
        exact v_R_checkHouses_76 (d_R_checkHouses_39 f) (ih) zr9 x1 hd

def d_R_checkHouses_37  (u : (Nat → Nat → Int32)) : Option ((Nat → Nat → Int32)) := d_R_checkHouses_39 FU u (0 : Int32)
set_option maxRecDepth 100000 in
set_option maxHeartbeats 4000000 in
theorem v_R_checkHouses_37  {r : (Nat → Nat → Int32)}  (u : (Nat → Nat → Int32)) (hd : d_R_checkHouses_37  u = some r) : Vd RX5 "checkHouses" cX5_checkHouses 2 none (rm 1) (ab_eq none (h_R r)) 0 0 0 0 37 [(0, .ref 0)] [] (h_R u) := by
  unfold d_R_checkHouses_37 at hd
  refine v_iconst dX5_checkHouses_37 ic_0 ?_
  refine v_istore_n (i := 1) (L2 := [(1, .int (0 : Int32)), (0, .ref 0)]) dX5_checkHouses_38 rfl (Nat.le_of_ble_eq_true rfl) rfl ?_
  refine v_loc [1, 0] rfl ?_
  exact v_R_checkHouses_39 FU u (0 : Int32) hd
def d_R_checkHouses (u : (Nat → Nat → Int32)) : Option ((Nat → Nat → Int32)) := if (u 0 5) = 0 then (d_R_checkHouses_37 u) else ((d_C_has (sh u 3) (u 3 5)).bind fun zr11 => if zr11 = 0 then ((d_R_fail u (6 : Int32) (u 1 2)).bind fun zr14 => d_R_checkHouses_37 zr14) else (d_R_checkHouses_37 u))
set_option maxRecDepth 100000 in
set_option maxHeartbeats 4000000 in
theorem v_R_checkHouses (u : (Nat → Nat → Int32)) {r : (Nat → Nat → Int32)} (hd : d_R_checkHouses u = some r) : Vd RX5 "checkHouses" cX5_checkHouses 2 none (rm 1) (ab_eq none (h_R r)) 0 0 0 0 0 [(0, .ref 0)] [] (h_R u) := by
  unfold d_R_checkHouses at hd
  refine v_aload_n dX5_checkHouses_0 rfl ?_
  refine v_get (v := .int (u 0 5)) dX5_checkHouses_1 fl_X5_42 rfl rfl ?_
  refine v_if_eq (tgt := 37) dX5_checkHouses_4 (by decide) (fun zc1 => ?_) (fun zc1 => ?_)
  · have hd := g_t hd zc1
    exact v_R_checkHouses_37 u hd
  · have hd := g_f hd zc1
    refine v_aload_n dX5_checkHouses_7 rfl ?_
    refine v_get (v := .ref 3) dX5_checkHouses_8 fl_X5_21 rfl rfl ?_
    refine v_aload_n dX5_checkHouses_11 rfl ?_
    refine v_get (v := .ref 3) dX5_checkHouses_12 fl_X5_21 rfl rfl ?_
    refine v_get (v := .int (u 3 5)) dX5_checkHouses_15 fl_X5_132 rfl rfl ?_
    obtain ⟨zr11, zh12, hd⟩ := g_bind hd
    refine v_cV (dy := 0) (st := []) (st2 := [.int zr11]) (h2 := (h_R u)) [3, 4, 5, 6, 7] dX5_checkHouses_18 mv_X5_144 (m_C_has (sh u 3) (u 3 5) zh12) rfl rfl rfl rfl rfl rfl rfl rfl (by decide) (by decide) rfl rfl rfl ?_
    refine v_if_ne (tgt := 37) dX5_checkHouses_21 (by decide) (fun zc13 => ?_) (fun zc13 => ?_)
    · have hd := g_f hd zc13
      exact v_R_checkHouses_37 u hd
    · have hd := g_t hd zc13
      refine v_aload_n dX5_checkHouses_24 rfl ?_
      refine v_bipush dX5_checkHouses_25 bp_6 ?_
      refine v_aload_n dX5_checkHouses_27 rfl ?_
      refine v_get (v := .ref 1) dX5_checkHouses_28 fl_X5_12 rfl rfl ?_
      refine v_get (v := .int (u 1 2)) dX5_checkHouses_31 fl_X5_148 rfl rfl ?_
      obtain ⟨zr14, zh15, hd⟩ := g_bind hd
      refine v_cI (dy := 0) (st := []) (st2 := []) dX5_checkHouses_34 mv_X5_72 (m_R_fail u (6 : Int32) (u 1 2) zh15) rfl rfl rfl rfl rfl (by decide) (by decide) rfl rfl ?_
      exact v_R_checkHouses_37 zr14 hd
theorem m_R_checkHouses (u : (Nat → Nat → Int32)) {r : (Nat → Nat → Int32)} (hd : d_R_checkHouses u = some r) : Mt yX5_checkHouses cX5_checkHouses 2 none (rm 1) [.ref 0] (h_R u) (ab_eq none (h_R r)) := Mt.of (by decide +kernel) (fun _ _ _ => trivial) (Nat.le_of_ble_eq_true rfl) (v_R_checkHouses u hd)

def d_R_makeOffers_52 (k2 : (Nat → Nat → Int32) → Int32 → Option ((Nat → Nat → Int32))) (u : (Nat → Nat → Int32)) (x1 : Int32) : Option ((Nat → Nat → Int32)) := dl (x1 + (1 : Int32)) fun zy8 => k2 u zy8
set_option maxRecDepth 100000 in
set_option maxHeartbeats 4000000 in
theorem v_R_makeOffers_52  {r : (Nat → Nat → Int32)} (k2 : (Nat → Nat → Int32) → Int32 → Option ((Nat → Nat → Int32))) (hk2 : ∀ (u : (Nat → Nat → Int32)) (x1 : Int32), k2 u x1 = some r → Vd RX5 "makeOffers" cX5_makeOffers 2 none (rm 3) (ab_eq none (h_R r)) 0 0 0 0 2 [(0, .ref 0), (1, .int x1)] [] (h_R u)) (u : (Nat → Nat → Int32)) (x1 : Int32) (hd : d_R_makeOffers_52 k2 u x1 = some r) : Vd RX5 "makeOffers" cX5_makeOffers 2 none (rm 3) (ab_eq none (h_R r)) 0 0 0 0 52 [(0, .ref 0), (1, .int x1)] [] (h_R u) := by
  unfold d_R_makeOffers_52 at hd
  obtain ⟨zy8, ze9⟩ : ∃ z : Int32, z = (x1 + (1 : Int32)) := ⟨_, rfl⟩
  have hd := dl_n hd zy8 ze9
  refine v_iinc (v := zy8) (L2 := [(1, .int zy8), (0, .ref 0)]) dX5_makeOffers_52 rfl (by rw [ic_1]; exact ze9.symm) (Nat.le_of_ble_eq_true rfl) rfl ?_
  refine v_goto (tgt := 2) dX5_makeOffers_55 (by decide) ?_
  refine v_loc [1, 0] rfl ?_
  exact hk2 u zy8 hd

def d_R_makeOffers_2  : Nat → (Nat → Nat → Int32) → Int32 → Option ((Nat → Nat → Int32))
  | 0, _, _ => none
  | f + 1, u, x1 => if (u 0 4) ≤ x1 then (some u) else (if (u 0 7) = 0 then (if gi x1 4 = true then if gi x1 4 = true then (d_C_giveAhead (sh u 3) ((u 8) x1.toNatClampNeg) ((u 9) x1.toNatClampNeg)).bind fun zr5 => if 0 ≤ zr5.1 then (d_R_makeOffers_52 (d_R_makeOffers_2 f) (pt u 3 5 zr5.2) x1) else ((d_R_fail (pt u 3 5 zr5.2) (7 : Int32) (u 1 2)).bind fun zr10 => d_R_makeOffers_52 (d_R_makeOffers_2 f) zr10 x1) else none else none) else (some u))
set_option maxRecDepth 100000 in
set_option maxHeartbeats 4000000 in
theorem v_R_makeOffers_2  {r : (Nat → Nat → Int32)}  : ∀ (f : Nat) (u : (Nat → Nat → Int32)) (x1 : Int32), d_R_makeOffers_2  f u x1 = some r → Vd RX5 "makeOffers" cX5_makeOffers 2 none (rm 3) (ab_eq none (h_R r)) 0 0 0 0 2 [(0, .ref 0), (1, .int x1)] [] (h_R u) := by
  intro f
  induction f with
  | zero =>
    intro u x1 hd
    rw [d_R_makeOffers_2] at hd
    cases hd
  | succ f ih =>
    intro u x1 hd
    rw [d_R_makeOffers_2] at hd
    refine v_iload_n dX5_makeOffers_2 rfl ?_
    refine v_aload_n dX5_makeOffers_3 rfl ?_
    refine v_get (v := .int (u 0 4)) dX5_makeOffers_4 fl_X5_38 rfl rfl ?_
    refine v_icmp_ge (tgt := 58) dX5_makeOffers_7 (by decide) (fun zc1 => ?_) (fun zc1 => ?_)
    · have hd := g_t hd zc1
      obtain rfl := Option.some.inj hd
      exact v_vretE dX5_makeOffers_58 rfl rfl rfl
    · have hd := g_f hd zc1
      refine v_aload_n dX5_makeOffers_10 rfl ?_
      refine v_get (v := .int (u 0 7)) dX5_makeOffers_11 fl_X5_49 rfl rfl ?_
      refine v_if_ne (tgt := 58) dX5_makeOffers_14 (by decide) (fun zc2 => ?_) (fun zc2 => ?_)
      · have hd := g_f hd zc2
        obtain rfl := Option.some.inj hd
        exact v_vretE dX5_makeOffers_58 rfl rfl rfl
      · have hd := g_t hd zc2
        refine v_aload_n dX5_makeOffers_17 rfl ?_
        refine v_get (v := .ref 3) dX5_makeOffers_18 fl_X5_21 rfl rfl ?_
        refine v_aload_n dX5_makeOffers_21 rfl ?_
        refine v_get (v := .ref 8) dX5_makeOffers_22 fl_X5_25 rfl rfl ?_
        refine v_iload_n dX5_makeOffers_25 rfl ?_
        obtain ⟨zg3, hd⟩ := g_b hd
        refine v_iald (f := (u 8)) dX5_makeOffers_26 rfl (gi_in zg3) ?_
        refine v_aload_n dX5_makeOffers_27 rfl ?_
        refine v_get (v := .ref 9) dX5_makeOffers_28 fl_X5_29 rfl rfl ?_
        refine v_iload_n dX5_makeOffers_31 rfl ?_
        obtain ⟨zg4, hd⟩ := g_b hd
        refine v_iald (f := (u 9)) dX5_makeOffers_32 rfl (gi_in zg4) ?_
        obtain ⟨zr5, zh6, hd⟩ := g_bind hd
        refine v_cV (dy := 2) (st := []) (st2 := [.int zr5.1]) (h2 := (h_R (pt u 3 5 zr5.2))) [3, 4, 5, 6, 7] dX5_makeOffers_33 mv_X5_151 (m_C_giveAhead (sh u 3) ((u 8) x1.toNatClampNeg) ((u 9) x1.toNatClampNeg) zh6) rfl rfl rfl rfl rfl rfl rfl rfl (by decide) (by decide) rfl rfl rfl ?_
        refine v_if_ge (tgt := 52) dX5_makeOffers_36 (by decide) (fun zc7 => ?_) (fun zc7 => ?_)
        · have hd := g_t hd zc7
          exact v_R_makeOffers_52 (d_R_makeOffers_2 f) (ih) (pt u 3 5 zr5.2) x1 hd
        · have hd := g_f hd zc7
          refine v_aload_n dX5_makeOffers_39 rfl ?_
          refine v_bipush dX5_makeOffers_40 bp_7 ?_
          refine v_aload_n dX5_makeOffers_42 rfl ?_
          refine v_get (v := .ref 1) dX5_makeOffers_43 fl_X5_12 rfl rfl ?_
          refine v_get (v := .int (u 1 2)) dX5_makeOffers_46 fl_X5_148 rfl rfl ?_
          obtain ⟨zr10, zh11, hd⟩ := g_bind hd
          refine v_cI (dy := 0) (st := []) (st2 := []) dX5_makeOffers_49 mv_X5_72 (m_R_fail (pt u 3 5 zr5.2) (7 : Int32) (u 1 2) zh11) rfl rfl rfl rfl rfl (by decide) (by decide) rfl rfl ?_
          exact v_R_makeOffers_52 (d_R_makeOffers_2 f) (ih) zr10 x1 hd
def d_R_makeOffers (u : (Nat → Nat → Int32)) : Option ((Nat → Nat → Int32)) := d_R_makeOffers_2 FU u (0 : Int32)
set_option maxRecDepth 100000 in
set_option maxHeartbeats 4000000 in
theorem v_R_makeOffers (u : (Nat → Nat → Int32)) {r : (Nat → Nat → Int32)} (hd : d_R_makeOffers u = some r) : Vd RX5 "makeOffers" cX5_makeOffers 2 none (rm 3) (ab_eq none (h_R r)) 0 0 0 0 0 [(0, .ref 0)] [] (h_R u) := by
  unfold d_R_makeOffers at hd
  refine v_iconst dX5_makeOffers_0 ic_0 ?_
  refine v_istore_n (i := 1) (L2 := [(1, .int (0 : Int32)), (0, .ref 0)]) dX5_makeOffers_1 rfl (Nat.le_of_ble_eq_true rfl) rfl ?_
  refine v_loc [1, 0] rfl ?_
  exact v_R_makeOffers_2 FU u (0 : Int32) hd
theorem m_R_makeOffers (u : (Nat → Nat → Int32)) {r : (Nat → Nat → Int32)} (hd : d_R_makeOffers u = some r) : Mt yX5_makeOffers cX5_makeOffers 2 none (rm 3) [.ref 0] (h_R u) (ab_eq none (h_R r)) := Mt.of (by decide +kernel) (fun _ _ _ => trivial) (Nat.le_of_ble_eq_true rfl) (v_R_makeOffers u hd)

def d_R_takeText_109  (u : (Nat → Nat → Int32)) : Option ((Nat → Nat → Int32)) := if (u 0 7) = 0 then ((d_R_makeOffers u).bind fun zr10 => some zr10) else (some u)
set_option maxRecDepth 100000 in
set_option maxHeartbeats 4000000 in
theorem v_R_takeText_109  {r : (Nat → Nat → Int32)}  (u : (Nat → Nat → Int32)) (hd : d_R_takeText_109  u = some r) : Vd RX5 "takeText" cX5_takeText 3 none (rm 8) (ab_eq none (h_R r)) 0 0 0 0 109 [(0, .ref 0)] [] (h_R u) := by
  unfold d_R_takeText_109 at hd
  refine v_aload_n dX5_takeText_109 rfl ?_
  refine v_get (v := .int (u 0 7)) dX5_takeText_110 fl_X5_49 rfl rfl ?_
  refine v_if_ne (tgt := 120) dX5_takeText_113 (by decide) (fun zc9 => ?_) (fun zc9 => ?_)
  · have hd := g_f hd zc9
    obtain rfl := Option.some.inj hd
    exact v_vretE dX5_takeText_120 rfl rfl rfl
  · have hd := g_t hd zc9
    refine v_aload_n dX5_takeText_116 rfl ?_
    obtain ⟨zr10, zh11, hd⟩ := g_bind hd
    refine v_cI (dy := 3) (st := []) (st2 := []) dX5_takeText_117 mv_X5_63 (m_R_makeOffers u zh11) rfl rfl rfl rfl rfl (by decide) (by decide) rfl rfl ?_
    obtain rfl := Option.some.inj hd
    exact v_vretE dX5_takeText_120 rfl rfl rfl

def d_R_takeText_98  (u : (Nat → Nat → Int32)) : Option ((Nat → Nat → Int32)) := if (u 0 7) = 0 then ((d_R_checkHouses u).bind fun zr12 => d_R_takeText_109 zr12) else (d_R_takeText_109 u)
set_option maxRecDepth 100000 in
set_option maxHeartbeats 4000000 in
theorem v_R_takeText_98  {r : (Nat → Nat → Int32)}  (u : (Nat → Nat → Int32)) (hd : d_R_takeText_98  u = some r) : Vd RX5 "takeText" cX5_takeText 3 none (rm 8) (ab_eq none (h_R r)) 0 0 0 0 98 [(0, .ref 0)] [] (h_R u) := by
  unfold d_R_takeText_98 at hd
  refine v_aload_n dX5_takeText_98 rfl ?_
  refine v_get (v := .int (u 0 7)) dX5_takeText_99 fl_X5_49 rfl rfl ?_
  refine v_if_ne (tgt := 109) dX5_takeText_102 (by decide) (fun zc8 => ?_) (fun zc8 => ?_)
  · have hd := g_f hd zc8
    exact v_R_takeText_109 u hd
  · have hd := g_t hd zc8
    refine v_aload_n dX5_takeText_105 rfl ?_
    obtain ⟨zr12, zh13, hd⟩ := g_bind hd
    refine v_cI (dy := 1) (st := []) (st2 := []) dX5_takeText_106 mv_X5_60 (m_R_checkHouses u zh13) rfl rfl rfl rfl rfl (by decide) (by decide) rfl rfl ?_
    exact v_R_takeText_109 zr12 hd

def d_R_takeText_92 (k44 : (Nat → Nat → Int32) → Int32 → Int32 → Option ((Nat → Nat → Int32))) (u : (Nat → Nat → Int32)) (x1 : Int32) (x2 : Int32) : Option ((Nat → Nat → Int32)) := dl (x2 + (1 : Int32)) fun zy19 => k44 u x1 zy19
set_option maxRecDepth 100000 in
set_option maxHeartbeats 4000000 in
theorem v_R_takeText_92  {r : (Nat → Nat → Int32)} (k44 : (Nat → Nat → Int32) → Int32 → Int32 → Option ((Nat → Nat → Int32))) (hk44 : ∀ (u : (Nat → Nat → Int32)) (x1 : Int32) (x2 : Int32), k44 u x1 x2 = some r → Vd RX5 "takeText" cX5_takeText 3 none (rm 8) (ab_eq none (h_R r)) 0 0 0 0 44 [(0, .ref 0), (1, .int x1), (2, .int x2)] [] (h_R u)) (u : (Nat → Nat → Int32)) (x1 : Int32) (x2 : Int32) (hd : d_R_takeText_92 k44 u x1 x2 = some r) : Vd RX5 "takeText" cX5_takeText 3 none (rm 8) (ab_eq none (h_R r)) 0 0 0 0 92 [(0, .ref 0), (1, .int x1), (2, .int x2)] [] (h_R u) := by
  unfold d_R_takeText_92 at hd
  obtain ⟨zy19, ze20⟩ : ∃ z : Int32, z = (x2 + (1 : Int32)) := ⟨_, rfl⟩
  have hd := dl_n hd zy19 ze20
  refine v_iinc (v := zy19) (L2 := [(2, .int zy19), (0, .ref 0), (1, .int x1)]) dX5_takeText_92 rfl (by rw [ic_1]; exact ze20.symm) (Nat.le_of_ble_eq_true rfl) rfl ?_
  refine v_goto (tgt := 44) dX5_takeText_95 (by decide) ?_
  refine v_loc [1, 2, 0] rfl ?_
  exact hk44 u x1 zy19 hd

def d_R_takeText_44  : Nat → (Nat → Nat → Int32) → Int32 → Int32 → Option ((Nat → Nat → Int32))
  | 0, _, _, _ => none
  | f + 1, u, x1, x2 => if (160 : Int32) ≤ x2 then (d_R_takeText_98 u) else (if (u 0 7) = 0 then (if x1 = 0 then (d_R_takeText_98 u) else ((d_R_takeLine u x1).bind fun zr16 => if (zr16 0 7) = 0 then (dl ((zr16 0 6) + (1 : Int32)) fun zy21 => (d_T_takeToken (sh (pw zr16 0 6 zy21) 1)).bind fun zr23 => d_R_takeText_92 (d_R_takeText_44 f) (pt (pw zr16 0 6 zy21) 1 2 zr23.2) zr23.1 x2) else (d_R_takeText_92 (d_R_takeText_44 f) zr16 x1 x2))) else (d_R_takeText_98 u))
set_option maxRecDepth 100000 in
set_option maxHeartbeats 4000000 in
theorem v_R_takeText_44  {r : (Nat → Nat → Int32)}  : ∀ (f : Nat) (u : (Nat → Nat → Int32)) (x1 : Int32) (x2 : Int32), d_R_takeText_44  f u x1 x2 = some r → Vd RX5 "takeText" cX5_takeText 3 none (rm 8) (ab_eq none (h_R r)) 0 0 0 0 44 [(0, .ref 0), (1, .int x1), (2, .int x2)] [] (h_R u) := by
  intro f
  induction f with
  | zero =>
    intro u x1 x2 hd
    rw [d_R_takeText_44] at hd
    cases hd
  | succ f ih =>
    intro u x1 x2 hd
    rw [d_R_takeText_44] at hd
    refine v_iload_n dX5_takeText_44 rfl ?_
    refine v_sipush dX5_takeText_45 sp_160 ?_
    refine v_icmp_ge (tgt := 98) dX5_takeText_48 (by decide) (fun zc7 => ?_) (fun zc7 => ?_)
    · have hd := g_t hd zc7
      refine v_loc [0] rfl ?_
      exact v_R_takeText_98 u hd
    · have hd := g_f hd zc7
      refine v_aload_n dX5_takeText_51 rfl ?_
      refine v_get (v := .int (u 0 7)) dX5_takeText_52 fl_X5_49 rfl rfl ?_
      refine v_if_ne (tgt := 98) dX5_takeText_55 (by decide) (fun zc14 => ?_) (fun zc14 => ?_)
      · have hd := g_f hd zc14
        refine v_loc [0] rfl ?_
        exact v_R_takeText_98 u hd
      · have hd := g_t hd zc14
        refine v_iload_n dX5_takeText_58 rfl ?_
        refine v_if_eq (tgt := 98) dX5_takeText_59 (by decide) (fun zc15 => ?_) (fun zc15 => ?_)
        · have hd := g_t hd zc15
          refine v_loc [0] rfl ?_
          exact v_R_takeText_98 u hd
        · have hd := g_f hd zc15
          refine v_aload_n dX5_takeText_62 rfl ?_
          refine v_iload_n dX5_takeText_63 rfl ?_
          obtain ⟨zr16, zh17, hd⟩ := g_bind hd
          refine v_cI (dy := 7) (st := []) (st2 := []) dX5_takeText_64 mv_X5_56 (m_R_takeLine u x1 zh17) rfl rfl rfl rfl rfl (by decide) (by decide) rfl rfl ?_
          refine v_aload_n dX5_takeText_67 rfl ?_
          refine v_get (v := .int (zr16 0 7)) dX5_takeText_68 fl_X5_49 rfl rfl ?_
          refine v_if_ne (tgt := 92) dX5_takeText_71 (by decide) (fun zc18 => ?_) (fun zc18 => ?_)
          · have hd := g_f hd zc18
            exact v_R_takeText_92 (d_R_takeText_44 f) (ih) zr16 x1 x2 hd
          · have hd := g_t hd zc18
            refine v_aload_n dX5_takeText_74 rfl ?_
            refine v_dup dX5_takeText_75 rfl ?_
            refine v_get (v := .int (zr16 0 6)) dX5_takeText_76 fl_X5_46 rfl rfl ?_
            refine v_iconst dX5_takeText_79 ic_1 ?_
            refine v_iadd dX5_takeText_80 ?_
            refine v_topi (fun zy21 ze22 => ?_)
            have hd := dl_n hd zy21 ze22
            refine v_pti (h2 := (h_R (pw zr16 0 6 zy21))) dX5_takeText_81 fl_X5_46 rfl (Nat.le_of_ble_eq_true rfl) rfl ?_
            refine v_aload_n dX5_takeText_84 rfl ?_
            refine v_get (v := .ref 1) dX5_takeText_85 fl_X5_12 rfl rfl ?_
            obtain ⟨zr23, zh24, hd⟩ := g_bind hd
            refine v_cV (dy := 1) (st := []) (st2 := [.int zr23.1]) (h2 := (h_R (pt (pw zr16 0 6 zy21) 1 2 zr23.2))) [1, 2] dX5_takeText_88 mv_X5_52 (m_T_takeToken (sh (pw zr16 0 6 zy21) 1) zh24) rfl rfl rfl rfl rfl rfl rfl rfl (by decide) (by decide) rfl rfl rfl ?_
            refine v_istore_n (i := 1) (L2 := [(1, .int zr23.1), (0, .ref 0), (2, .int x2)]) dX5_takeText_91 rfl (Nat.le_of_ble_eq_true rfl) rfl ?_
            refine v_loc [1, 0, 2] rfl ?_
            exact v_R_takeText_92 (d_R_takeText_44 f) (ih) (pt (pw zr16 0 6 zy21) 1 2 zr23.2) zr23.1 x2 hd
def d_R_takeText (u : (Nat → Nat → Int32)) : Option ((Nat → Nat → Int32)) := (d_T_rewind (sh u 1)).bind fun zr1 => (d_C_clear (sh (pt u 1 2 zr1) 3)).bind fun zr3 => (d_T_takeToken (sh (pw (pw (pw (pw (pt (pt u 1 2 zr1) 3 5 zr3) 0 4 (0 : Int32)) 0 5 (0 : Int32)) 0 6 (0 : Int32)) 0 7 (0 : Int32)) 1)).bind fun zr5 => d_R_takeText_44 FU (pt (pw (pw (pw (pw (pt (pt u 1 2 zr1) 3 5 zr3) 0 4 (0 : Int32)) 0 5 (0 : Int32)) 0 6 (0 : Int32)) 0 7 (0 : Int32)) 1 2 zr5.2) zr5.1 (0 : Int32)
set_option maxRecDepth 100000 in
set_option maxHeartbeats 4000000 in
theorem v_R_takeText (u : (Nat → Nat → Int32)) {r : (Nat → Nat → Int32)} (hd : d_R_takeText u = some r) : Vd RX5 "takeText" cX5_takeText 3 none (rm 8) (ab_eq none (h_R r)) 0 0 0 0 0 [(0, .ref 0)] [] (h_R u) := by
  unfold d_R_takeText at hd
  refine v_aload_n dX5_takeText_0 rfl ?_
  refine v_get (v := .ref 1) dX5_takeText_1 fl_X5_12 rfl rfl ?_
  obtain ⟨zr1, zh2, hd⟩ := g_bind hd
  refine v_cV (dy := 0) (st := []) (st2 := []) (h2 := (h_R (pt u 1 2 zr1))) [1, 2] dX5_takeText_4 mv_X5_32 (m_T_rewind (sh u 1) zh2) rfl rfl rfl rfl rfl rfl rfl rfl (by decide) (by decide) rfl rfl rfl ?_
  refine v_aload_n dX5_takeText_7 rfl ?_
  refine v_get (v := .ref 3) dX5_takeText_8 fl_X5_21 rfl rfl ?_
  obtain ⟨zr3, zh4, hd⟩ := g_bind hd
  refine v_cV (dy := 0) (st := []) (st2 := []) (h2 := (h_R (pt (pt u 1 2 zr1) 3 5 zr3))) [3, 4, 5, 6, 7] dX5_takeText_11 mv_X5_35 (m_C_clear (sh (pt u 1 2 zr1) 3) zh4) rfl rfl rfl rfl rfl rfl rfl rfl (by decide) (by decide) rfl rfl rfl ?_
  refine v_aload_n dX5_takeText_14 rfl ?_
  refine v_iconst dX5_takeText_15 ic_0 ?_
  refine v_pti (h2 := (h_R (pw (pt (pt u 1 2 zr1) 3 5 zr3) 0 4 (0 : Int32)))) dX5_takeText_16 fl_X5_38 rfl (Nat.le_of_ble_eq_true rfl) rfl ?_
  refine v_aload_n dX5_takeText_19 rfl ?_
  refine v_iconst dX5_takeText_20 ic_0 ?_
  refine v_ptz (h2 := (h_R (pw (pw (pt (pt u 1 2 zr1) 3 5 zr3) 0 4 (0 : Int32)) 0 5 (0 : Int32)))) dX5_takeText_21 fl_X5_42 rfl (Or.inl rfl) (Nat.le_of_ble_eq_true rfl) rfl ?_
  refine v_aload_n dX5_takeText_24 rfl ?_
  refine v_iconst dX5_takeText_25 ic_0 ?_
  refine v_pti (h2 := (h_R (pw (pw (pw (pt (pt u 1 2 zr1) 3 5 zr3) 0 4 (0 : Int32)) 0 5 (0 : Int32)) 0 6 (0 : Int32)))) dX5_takeText_26 fl_X5_46 rfl (Nat.le_of_ble_eq_true rfl) rfl ?_
  refine v_aload_n dX5_takeText_29 rfl ?_
  refine v_iconst dX5_takeText_30 ic_0 ?_
  refine v_pti (h2 := (h_R (pw (pw (pw (pw (pt (pt u 1 2 zr1) 3 5 zr3) 0 4 (0 : Int32)) 0 5 (0 : Int32)) 0 6 (0 : Int32)) 0 7 (0 : Int32)))) dX5_takeText_31 fl_X5_49 rfl (Nat.le_of_ble_eq_true rfl) rfl ?_
  refine v_aload_n dX5_takeText_34 rfl ?_
  refine v_get (v := .ref 1) dX5_takeText_35 fl_X5_12 rfl rfl ?_
  obtain ⟨zr5, zh6, hd⟩ := g_bind hd
  refine v_cV (dy := 1) (st := []) (st2 := [.int zr5.1]) (h2 := (h_R (pt (pw (pw (pw (pw (pt (pt u 1 2 zr1) 3 5 zr3) 0 4 (0 : Int32)) 0 5 (0 : Int32)) 0 6 (0 : Int32)) 0 7 (0 : Int32)) 1 2 zr5.2))) [1, 2] dX5_takeText_38 mv_X5_52 (m_T_takeToken (sh (pw (pw (pw (pw (pt (pt u 1 2 zr1) 3 5 zr3) 0 4 (0 : Int32)) 0 5 (0 : Int32)) 0 6 (0 : Int32)) 0 7 (0 : Int32)) 1) zh6) rfl rfl rfl rfl rfl rfl rfl rfl (by decide) (by decide) rfl rfl rfl ?_
  refine v_istore_n (i := 1) (L2 := [(1, .int zr5.1), (0, .ref 0)]) dX5_takeText_41 rfl (Nat.le_of_ble_eq_true rfl) rfl ?_
  refine v_iconst dX5_takeText_42 ic_0 ?_
  refine v_istore_n (i := 2) (L2 := [(2, .int (0 : Int32)), (1, .int zr5.1), (0, .ref 0)]) dX5_takeText_43 rfl (Nat.le_of_ble_eq_true rfl) rfl ?_
  refine v_loc [2, 1, 0] rfl ?_
  exact v_R_takeText_44 FU (pt (pw (pw (pw (pw (pt (pt u 1 2 zr1) 3 5 zr3) 0 4 (0 : Int32)) 0 5 (0 : Int32)) 0 6 (0 : Int32)) 0 7 (0 : Int32)) 1 2 zr5.2) zr5.1 (0 : Int32) hd
theorem m_R_takeText (u : (Nat → Nat → Int32)) {r : (Nat → Nat → Int32)} (hd : d_R_takeText u = some r) : Mt yX5_takeText cX5_takeText 3 none (rm 8) [.ref 0] (h_R u) (ab_eq none (h_R r)) := Mt.of (by decide +kernel) (fun _ _ _ => trivial) (Nat.le_of_ble_eq_true rfl) (v_R_takeText u hd)
