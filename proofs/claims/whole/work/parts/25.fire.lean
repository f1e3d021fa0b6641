def d_F_feed (u : (Nat → Nat → Int32)) (a1 : Int32) : Option (Int32 × (Nat → Nat → Int32)) := (d_P_outside a1 (0 : Int32) (127 : Int32)).bind fun zr1 => if zr1 = 0 then ((d_T_append (sh u 2) a1).bind fun zr4 => if zr4.1 = 0 then (some ((-3 : Int32), (pt u 2 2 zr4.2))) else (some ((zr4.2 0 2), (pt u 2 2 zr4.2)))) else (some ((-1 : Int32), u))
set_option maxRecDepth 100000 in
set_option maxHeartbeats 4000000 in
theorem v_F_feed (u : (Nat → Nat → Int32)) (a1 : Int32) {r : Int32 × (Nat → Nat → Int32)} (hd : d_F_feed u a1 = some r) : Vd RX6 "feed" cX6_feed 2 (some .int) (rm 1) (ab_eq (some (.int r.1)) (h_F r.2)) 0 0 0 0 0 [(0, .ref 0), (1, .int a1)] [] (h_F u) := by
  unfold d_F_feed at hd
  refine v_iload_n dX6_feed_0 rfl ?_
  refine v_iconst dX6_feed_1 ic_0 ?_
  refine v_bipush dX6_feed_2 bp_127 ?_
  obtain ⟨zr1, zh2, hd⟩ := g_bind hd
  refine v_cS (dy := 0) (st := []) (st2 := [.int zr1]) (h2 := (h_F u)) [] dX6_feed_4 mz_X6_54 (m_P_outside a1 (0 : Int32) (127 : Int32) zh2) rfl rfl rfl rfl rfl rfl (by decide) (by decide) rfl rfl rfl ?_
  refine v_if_eq (tgt := 12) dX6_feed_7 (by decide) (fun zc3 => ?_) (fun zc3 => ?_)
  · have hd := g_t hd zc3
    refine v_aload_n dX6_feed_12 rfl ?_
    refine v_get (v := .ref 1) dX6_feed_13 fl_X6_10 rfl rfl ?_
    refine v_get (v := .ref 2) dX6_feed_16 fl_X6_58 rfl rfl ?_
    refine v_iload_n dX6_feed_19 rfl ?_
    obtain ⟨zr4, zh5, hd⟩ := g_bind hd
    refine v_cV (dy := 0) (st := []) (st2 := [.int zr4.1]) (h2 := (h_F (pt u 2 2 zr4.2))) [2, 3] dX6_feed_20 mv_X6_62 (m_T_append (sh u 2) a1 zh5) rfl rfl rfl rfl rfl rfl rfl rfl (by decide) (by decide) rfl rfl rfl ?_
    refine v_if_eq (tgt := 39) dX6_feed_23 (by decide) (fun zc6 => ?_) (fun zc6 => ?_)
    · have hd := g_t hd zc6
      refine v_bipush dX6_feed_39 bp_m3 ?_
      obtain rfl := Option.some.inj hd
      exact v_iretE dX6_feed_41 rfl rfl rfl rfl
    · have hd := g_f hd zc6
      refine v_aload_n dX6_feed_26 rfl ?_
      refine v_get (v := .ref 1) dX6_feed_27 fl_X6_10 rfl rfl ?_
      refine v_get (v := .ref 2) dX6_feed_30 fl_X6_58 rfl rfl ?_
      refine v_get (v := .int (zr4.2 0 2)) dX6_feed_33 fl_X6_68 rfl rfl ?_
      refine v_goto (tgt := 41) dX6_feed_36 (by decide) ?_
      obtain rfl := Option.some.inj hd
      exact v_iretE dX6_feed_41 rfl rfl rfl rfl
  · have hd := g_f hd zc3
    refine v_iconst dX6_feed_10 ic_m1 ?_
    obtain rfl := Option.some.inj hd
    exact v_iretE dX6_feed_11 rfl rfl rfl rfl
theorem m_F_feed (u : (Nat → Nat → Int32)) (a1 : Int32) {r : Int32 × (Nat → Nat → Int32)} (hd : d_F_feed u a1 = some r) : Mt yX6_feed cX6_feed 2 (some .int) (rm 1) [.ref 0, .int a1] (h_F u) (ab_eq (some (.int r.1)) (h_F r.2)) := Mt.of (by decide +kernel) (fun _ _ _ => trivial) (Nat.le_of_ble_eq_true rfl) (v_F_feed u a1 hd)
def d_F_end (u : (Nat → Nat → Int32)) (a1 : Int32) : Option (Int32 × (Nat → Nat → Int32)) := (d_P_outside a1 (0 : Int32) (u 2 2)).bind fun zr1 => if zr1 = 0 then (dl (u 2 2) fun zy4 => some (zy4, (pw u 2 2 a1))) else (some ((-1 : Int32), u))
set_option maxRecDepth 100000 in
set_option maxHeartbeats 4000000 in
theorem v_F_end (u : (Nat → Nat → Int32)) (a1 : Int32) {r : Int32 × (Nat → Nat → Int32)} (hd : d_F_end u a1 = some r) : Vd RX6 "end" cX6_end 4 (some .int) (rm 1) (ab_eq (some (.int r.1)) (h_F r.2)) 0 0 0 0 0 [(0, .ref 0), (1, .int a1)] [] (h_F u) := by
  unfold d_F_end at hd
  refine v_aload_n dX6_end_0 rfl ?_
  refine v_get (v := .ref 1) dX6_end_1 fl_X6_10 rfl rfl ?_
  refine v_get (v := .ref 2) dX6_end_4 fl_X6_58 rfl rfl ?_
  refine v_astore_n (i := 2) (L2 := [(2, .ref 2), (0, .ref 0), (1, .int a1)]) dX6_end_7 rfl (Nat.le_of_ble_eq_true rfl) rfl ?_
  refine v_iload_n dX6_end_8 rfl ?_
  refine v_iconst dX6_end_9 ic_0 ?_
  refine v_aload_n dX6_end_10 rfl ?_
  refine v_get (v := .int (u 2 2)) dX6_end_11 fl_X6_68 rfl rfl ?_
  obtain ⟨zr1, zh2, hd⟩ := g_bind hd
  refine v_cS (dy := 0) (st := []) (st2 := [.int zr1]) (h2 := (h_F u)) [] dX6_end_14 mz_X6_54 (m_P_outside a1 (0 : Int32) (u 2 2) zh2) rfl rfl rfl rfl rfl rfl (by decide) (by decide) rfl rfl rfl ?_
  refine v_if_eq (tgt := 22) dX6_end_17 (by decide) (fun zc3 => ?_) (fun zc3 => ?_)
  · have hd := g_t hd zc3
    refine v_aload_n dX6_end_22 rfl ?_
    refine v_get (v := .int (u 2 2)) dX6_end_23 fl_X6_68 rfl rfl ?_
    refine v_topi (fun zy4 ze5 => ?_)
    have hd := dl_n hd zy4 ze5
    refine v_istore_n (i := 3) (L2 := [(3, .int zy4), (2, .ref 2), (0, .ref 0), (1, .int a1)]) dX6_end_26 rfl (Nat.le_of_ble_eq_true rfl) rfl ?_
    refine v_aload_n dX6_end_27 rfl ?_
    refine v_iload_n dX6_end_28 rfl ?_
    refine v_pti (h2 := (h_F (pw u 2 2 a1))) dX6_end_29 fl_X6_68 rfl (Nat.le_of_ble_eq_true rfl) rfl ?_
    refine v_iload_n dX6_end_32 rfl ?_
    obtain rfl := Option.some.inj hd
    exact v_iretE dX6_end_33 rfl rfl rfl rfl
  · have hd := g_f hd zc3
    refine v_iconst dX6_end_20 ic_m1 ?_
    obtain rfl := Option.some.inj hd
    exact v_iretE dX6_end_21 rfl rfl rfl rfl
theorem m_F_end (u : (Nat → Nat → Int32)) (a1 : Int32) {r : Int32 × (Nat → Nat → Int32)} (hd : d_F_end u a1 = some r) : Mt yX6_end cX6_end 4 (some .int) (rm 1) [.ref 0, .int a1] (h_F u) (ab_eq (some (.int r.1)) (h_F r.2)) := Mt.of (by decide +kernel) (fun _ _ _ => trivial) (Nat.le_of_ble_eq_true rfl) (v_F_end u a1 hd)

def d_F_text_74  : Nat → (Nat → Nat → Int32) → Int32 → Option (Int32 × (Nat → Nat → Int32))
  | 0, _, _ => none
  | f + 1, u, x1 => if (2 : Int32) ≤ x1 then (some ((u 1 6), u)) else (if x1 = (0 : Int32) then (dl (x1 + (1 : Int32)) fun zy10 => d_F_text_74 f (pw u 26 2 (0 : Int32)) zy10) else if x1 = (1 : Int32) then (dl (x1 + (1 : Int32)) fun zy13 => d_F_text_74 f (pw u 36 2 (0 : Int32)) zy13) else none)
set_option maxRecDepth 100000 in
set_option maxHeartbeats 4000000 in
theorem v_F_text_74  {r : Int32 × (Nat → Nat → Int32)}  : ∀ (f : Nat) (u : (Nat → Nat → Int32)) (x1 : Int32), d_F_text_74  f u x1 = some r → Vd RX6 "text" cX6_text 2 (some .int) (rm 9) (ab_eq (some (.int r.1)) (h_F r.2)) 0 0 0 0 74 [(0, .ref 0), (1, .int x1)] [] (h_F u) := by
  intro f
  induction f with
  | zero =>
    intro u x1 hd
    rw [d_F_text_74] at hd
    cases hd
  | succ f ih =>
    intro u x1 hd
    rw [d_F_text_74] at hd
    refine v_iload_n dX6_text_74 rfl ?_
    refine v_iconst dX6_text_75 ic_2 ?_
    refine v_icmp_ge (tgt := 95) dX6_text_76 (by decide) (fun zc8 => ?_) (fun zc8 => ?_)
    · have hd := g_t hd zc8
      refine v_aload_n dX6_text_95 rfl ?_
      refine v_get (v := .ref 1) dX6_text_96 fl_X6_10 rfl rfl ?_
      refine v_get (v := .int (u 1 6)) dX6_text_99 fl_X6_98 rfl rfl ?_
      obtain rfl := Option.some.inj hd
      exact v_iretE dX6_text_102 rfl rfl rfl rfl
    · have hd := g_f hd zc8
      refine v_aload_n dX6_text_79 rfl ?_
      refine v_get (v := .ref 25) dX6_text_80 fl_X6_35 rfl rfl ?_
      refine v_iload_n dX6_text_83 rfl ?_
      by_cases zc9 : x1 = (0 : Int32)
      · have hd := g_t hd zc9
        refine v_aald (r := 26) dX6_text_84 rfl (Or.inl rfl) (by rw [zc9]; exact gi_in (by decide)) (by rw [zc9]; rfl) ?_
        refine v_iconst dX6_text_85 ic_0 ?_
        refine v_ptz (h2 := (h_F (pw u 26 2 (0 : Int32)))) dX6_text_86 fl_X6_94 rfl (Or.inl rfl) (Nat.le_of_ble_eq_true rfl) rfl ?_
        obtain ⟨zy10, ze11⟩ : ∃ z : Int32, z = (x1 + (1 : Int32)) := ⟨_, rfl⟩
        have hd := dl_n hd zy10 ze11
        refine v_iinc (v := zy10) (L2 := [(1, .int zy10), (0, .ref 0)]) dX6_text_89 rfl (by rw [ic_1]; exact ze11.symm) (Nat.le_of_ble_eq_true rfl) rfl ?_
        refine v_goto (tgt := 74) dX6_text_92 (by decide) ?_
        refine v_loc [1, 0] rfl ?_
        exact ih (pw u 26 2 (0 : Int32)) zy10 hd
      have hd := g_f hd zc9
      by_cases zc12 : x1 = (1 : Int32)
      · have hd := g_t hd zc12
        refine v_aald (r := 36) dX6_text_84 rfl (Or.inl rfl) (by rw [zc12]; exact gi_in (by decide)) (by rw [zc12]; rfl) ?_
        refine v_iconst dX6_text_85 ic_0 ?_
        refine v_ptz (h2 := (h_F (pw u 36 2 (0 : Int32)))) dX6_text_86 fl_X6_94 rfl (Or.inl rfl) (Nat.le_of_ble_eq_true rfl) rfl ?_
        obtain ⟨zy13, ze14⟩ : ∃ z : Int32, z = (x1 + (1 : Int32)) := ⟨_, rfl⟩
        have hd := dl_n hd zy13 ze14
        refine v_iinc (v := zy13) (L2 := [(1, .int zy13), (0, .ref 0)]) dX6_text_89 rfl (by rw [ic_1]; exact ze14.symm) (Nat.le_of_ble_eq_true rfl) rfl ?_
        refine v_goto (tgt := 74) dX6_text_92 (by decide) ?_
        refine v_loc [1, 0] rfl ?_
        exact ih (pw u 36 2 (0 : Int32)) zy13 hd
      have hd := g_f hd zc12
      cases hd
def d_F_text (u : (Nat → Nat → Int32)) : Option (Int32 × (Nat → Nat → Int32)) := (d_R_takeText (sh u 1)).bind fun zr1 => dl (zr1 0 7) fun zy3 => if (zr1 0 7) = 0 then ((d_CC_becomeLike (sj (sh (pw (pw (pt u 1 10 zr1) 2 2 (0 : Int32)) 0 8 zy3) 11) (sh (pw (pw (pt u 1 10 zr1) 2 2 (0 : Int32)) 0 8 zy3) 4) 5)).bind fun zr6 => d_F_text_74 FU (pw (pt (pt (pw (pw (pt u 1 10 zr1) 2 2 (0 : Int32)) 0 8 zy3) 11 5 zr6) 4 5 (sh zr6 5)) 21 3 (0 : Int32)) (0 : Int32)) else (some (((-10 : Int32) - (zr1 0 8)), (pw (pw (pt u 1 10 zr1) 2 2 (0 : Int32)) 0 8 zy3)))
set_option maxRecDepth 100000 in
set_option maxHeartbeats 4000000 in
theorem v_F_text (u : (Nat → Nat → Int32)) {r : Int32 × (Nat → Nat → Int32)} (hd : d_F_text u = some r) : Vd RX6 "text" cX6_text 2 (some .int) (rm 9) (ab_eq (some (.int r.1)) (h_F r.2)) 0 0 0 0 0 [(0, .ref 0)] [] (h_F u) := by
  unfold d_F_text at hd
  refine v_aload_n dX6_text_0 rfl ?_
  refine v_get (v := .ref 1) dX6_text_1 fl_X6_10 rfl rfl ?_
  obtain ⟨zr1, zh2, hd⟩ := g_bind hd
  refine v_cV (dy := 8) (st := []) (st2 := []) (h2 := (h_F (pt u 1 10 zr1))) [1, 2, 3, 4, 5, 6, 7, 8, 9, 10] dX6_text_4 mv_X6_72 (m_R_takeText (sh u 1) zh2) rfl rfl rfl rfl rfl rfl rfl rfl (by decide) (by decide) rfl rfl rfl ?_
  refine v_aload_n dX6_text_7 rfl ?_
  refine v_get (v := .ref 1) dX6_text_8 fl_X6_10 rfl rfl ?_
  refine v_get (v := .ref 2) dX6_text_11 fl_X6_58 rfl rfl ?_
  refine v_iconst dX6_text_14 ic_0 ?_
  refine v_pti (h2 := (h_F (pw (pt u 1 10 zr1) 2 2 (0 : Int32)))) dX6_text_15 fl_X6_68 rfl (Nat.le_of_ble_eq_true rfl) rfl ?_
  refine v_aload_n dX6_text_18 rfl ?_
  refine v_aload_n dX6_text_19 rfl ?_
  refine v_get (v := .ref 1) dX6_text_20 fl_X6_10 rfl rfl ?_
  refine v_get (v := .int (zr1 0 7)) dX6_text_23 fl_X6_75 rfl rfl ?_
  refine v_topi (fun zy3 ze4 => ?_)
  have hd := dl_n hd zy3 ze4
  refine v_pti (h2 := (h_F (pw (pw (pt u 1 10 zr1) 2 2 (0 : Int32)) 0 8 zy3))) dX6_text_26 fl_X6_78 rfl (Nat.le_of_ble_eq_true rfl) rfl ?_
  refine v_aload_n dX6_text_29 rfl ?_
  refine v_get (v := .ref 1) dX6_text_30 fl_X6_10 rfl rfl ?_
  refine v_get (v := .int (zr1 0 7)) dX6_text_33 fl_X6_75 rfl rfl ?_
  refine v_if_eq (tgt := 50) dX6_text_36 (by decide) (fun zc5 => ?_) (fun zc5 => ?_)
  · have hd := g_t hd zc5
    refine v_aload_n dX6_text_50 rfl ?_
    refine v_get (v := .ref 11) dX6_text_51 fl_X6_19 rfl rfl ?_
    refine v_aload_n dX6_text_54 rfl ?_
    refine v_get (v := .ref 1) dX6_text_55 fl_X6_10 rfl rfl ?_
    refine v_get (v := .ref 4) dX6_text_58 fl_X6_84 rfl rfl ?_
    obtain ⟨zr6, zh7, hd⟩ := g_bind hd
    refine v_cV (dy := 1) (st := []) (st2 := []) (h2 := (h_F (pt (pt (pw (pw (pt u 1 10 zr1) 2 2 (0 : Int32)) 0 8 zy3) 11 5 zr6) 4 5 (sh zr6 5)))) [11, 12, 13, 14, 15, 4, 5, 6, 7, 8] dX6_text_61 mv_X6_87 (m_CC_becomeLike (sj (sh (pw (pw (pt u 1 10 zr1) 2 2 (0 : Int32)) 0 8 zy3) 11) (sh (pw (pw (pt u 1 10 zr1) 2 2 (0 : Int32)) 0 8 zy3) 4) 5) zh7) rfl rfl rfl rfl rfl rfl rfl rfl (by decide) (by decide) rfl rfl rfl ?_
    refine v_aload_n dX6_text_64 rfl ?_
    refine v_get (v := .ref 21) dX6_text_65 fl_X6_29 rfl rfl ?_
    refine v_iconst dX6_text_68 ic_0 ?_
    refine v_pti (h2 := (h_F (pw (pt (pt (pw (pw (pt u 1 10 zr1) 2 2 (0 : Int32)) 0 8 zy3) 11 5 zr6) 4 5 (sh zr6 5)) 21 3 (0 : Int32)))) dX6_text_69 fl_X6_91 rfl (Nat.le_of_ble_eq_true rfl) rfl ?_
    refine v_iconst dX6_text_72 ic_0 ?_
    refine v_istore_n (i := 1) (L2 := [(1, .int (0 : Int32)), (0, .ref 0)]) dX6_text_73 rfl (Nat.le_of_ble_eq_true rfl) rfl ?_
    refine v_loc [1, 0] rfl ?_
    exact v_F_text_74 FU (pw (pt (pt (pw (pw (pt u 1 10 zr1) 2 2 (0 : Int32)) 0 8 zy3) 11 5 zr6) 4 5 (sh zr6 5)) 21 3 (0 : Int32)) (0 : Int32) hd
  · have hd := g_f hd zc5
    refine v_bipush dX6_text_39 bp_m10 ?_
    refine v_aload_n dX6_text_41 rfl ?_
    refine v_get (v := .ref 1) dX6_text_42 fl_X6_10 rfl rfl ?_
    refine v_get (v := .int (zr1 0 8)) dX6_text_45 fl_X6_81 rfl rfl ?_
    refine v_isub dX6_text_48 ?_
    obtain rfl := Option.some.inj hd
    exact v_iretE dX6_text_49 rfl rfl rfl rfl
theorem m_F_text (u : (Nat → Nat → Int32)) {r : Int32 × (Nat → Nat → Int32)} (hd : d_F_text u = some r) : Mt yX6_text cX6_text 2 (some .int) (rm 9) [.ref 0] (h_F u) (ab_eq (some (.int r.1)) (h_F r.2)) := Mt.of (by decide +kernel) (fun _ _ _ => trivial) (Nat.le_of_ble_eq_true rfl) (v_F_text u hd)
def d_F_fault (u : (Nat → Nat → Int32)) : Option Int32 := some (u 0 8)
set_option maxRecDepth 100000 in
set_option maxHeartbeats 4000000 in
theorem v_F_fault (u : (Nat → Nat → Int32)) {r : Int32} (hd : d_F_fault u = some r) : Vd RX6 "fault" cX6_fault 1 (some .int) (rm 0) (ab_eq (some (.int r)) (h_F u)) 0 0 0 0 0 [(0, .ref 0)] [] (h_F u) := by
  unfold d_F_fault at hd
  refine v_aload_n dX6_fault_0 rfl ?_
  refine v_get (v := .int (u 0 8)) dX6_fault_1 fl_X6_78 rfl rfl ?_
  obtain rfl := Option.some.inj hd
  exact v_iretE dX6_fault_4 rfl rfl rfl rfl
theorem m_F_fault (u : (Nat → Nat → Int32)) {r : Int32} (hd : d_F_fault u = some r) : Mt yX6_fault cX6_fault 1 (some .int) (rm 0) [.ref 0] (h_F u) (ab_eq (some (.int r)) (h_F u)) := Mt.of (by decide +kernel) (fun _ _ _ => trivial) (Nat.le_of_ble_eq_true rfl) (v_F_fault u hd)
def d_F_rule (u : (Nat → Nat → Int32)) (a1 : Int32) : Option Int32 := if a1 = (0 : Int32) then (some (u 11 4)) else if a1 = (1 : Int32) then (some (u 11 5)) else if a1 = (2 : Int32) then (some (u 11 6)) else if a1 = (3 : Int32) then (some (u 11 7)) else if a1 = (4 : Int32) then (some (u 11 8)) else if a1 = (5 : Int32) then (some (u 11 9)) else if a1 = (6 : Int32) then (some (u 11 10)) else if a1 = (7 : Int32) then (some (u 11 11)) else if a1 = (8 : Int32) then ((d_C_allWorth (sh u 11)).bind fun zr10 => some zr10) else (some (-1 : Int32))
set_option maxRecDepth 100000 in
set_option maxHeartbeats 4000000 in
theorem v_F_rule (u : (Nat → Nat → Int32)) (a1 : Int32) {r : Int32} (hd : d_F_rule u a1 = some r) : Vd RX6 "rule" cX6_rule 2 (some .int) (rm 1) (ab_eq (some (.int r)) (h_F u)) 0 0 0 0 0 [(0, .ref 0), (1, .int a1)] [] (h_F u) := by
  unfold d_F_rule at hd
  refine v_iload_n dX6_rule_0 rfl ?_
  by_cases zc1 : a1 = (0 : Int32)
  · have hd := g_t hd zc1
    refine v_tIn (0 : Int32) (tgt := 52) dX6_rule_1 zc1 (by decide) (by decide) rfl (by decide) ?_
    refine v_aload_n dX6_rule_52 rfl ?_
    refine v_get (v := .ref 11) dX6_rule_53 fl_X6_19 rfl rfl ?_
    refine v_get (v := .int (u 11 4)) dX6_rule_56 fl_X6_101 rfl rfl ?_
    obtain rfl := Option.some.inj hd
    exact v_iretE dX6_rule_59 rfl rfl rfl rfl
  have hd := g_f hd zc1
  by_cases zc2 : a1 = (1 : Int32)
  · have hd := g_t hd zc2
    refine v_tIn (1 : Int32) (tgt := 60) dX6_rule_1 zc2 (by decide) (by decide) rfl (by decide) ?_
    refine v_aload_n dX6_rule_60 rfl ?_
    refine v_get (v := .ref 11) dX6_rule_61 fl_X6_19 rfl rfl ?_
    refine v_get (v := .int (u 11 5)) dX6_rule_64 fl_X6_104 rfl rfl ?_
    obtain rfl := Option.some.inj hd
    exact v_iretE dX6_rule_67 rfl rfl rfl rfl
  have hd := g_f hd zc2
  by_cases zc3 : a1 = (2 : Int32)
  · have hd := g_t hd zc3
    refine v_tIn (2 : Int32) (tgt := 68) dX6_rule_1 zc3 (by decide) (by decide) rfl (by decide) ?_
    refine v_aload_n dX6_rule_68 rfl ?_
    refine v_get (v := .ref 11) dX6_rule_69 fl_X6_19 rfl rfl ?_
    refine v_get (v := .int (u 11 6)) dX6_rule_72 fl_X6_107 rfl rfl ?_
    obtain rfl := Option.some.inj hd
    exact v_iretE dX6_rule_75 rfl rfl rfl rfl
  have hd := g_f hd zc3
  by_cases zc4 : a1 = (3 : Int32)
  · have hd := g_t hd zc4
    refine v_tIn (3 : Int32) (tgt := 76) dX6_rule_1 zc4 (by decide) (by decide) rfl (by decide) ?_
    refine v_aload_n dX6_rule_76 rfl ?_
    refine v_get (v := .ref 11) dX6_rule_77 fl_X6_19 rfl rfl ?_
    refine v_get (v := .int (u 11 7)) dX6_rule_80 fl_X6_110 rfl rfl ?_
    obtain rfl := Option.some.inj hd
    exact v_iretE dX6_rule_83 rfl rfl rfl rfl
  have hd := g_f hd zc4
  by_cases zc5 : a1 = (4 : Int32)
  · have hd := g_t hd zc5
    refine v_tIn (4 : Int32) (tgt := 84) dX6_rule_1 zc5 (by decide) (by decide) rfl (by decide) ?_
    refine v_aload_n dX6_rule_84 rfl ?_
    refine v_get (v := .ref 11) dX6_rule_85 fl_X6_19 rfl rfl ?_
    refine v_get (v := .int (u 11 8)) dX6_rule_88 fl_X6_113 rfl rfl ?_
    obtain rfl := Option.some.inj hd
    exact v_iretE dX6_rule_91 rfl rfl rfl rfl
  have hd := g_f hd zc5
  by_cases zc6 : a1 = (5 : Int32)
  · have hd := g_t hd zc6
    refine v_tIn (5 : Int32) (tgt := 92) dX6_rule_1 zc6 (by decide) (by decide) rfl (by decide) ?_
    refine v_aload_n dX6_rule_92 rfl ?_
    refine v_get (v := .ref 11) dX6_rule_93 fl_X6_19 rfl rfl ?_
    refine v_get (v := .int (u 11 9)) dX6_rule_96 fl_X6_116 rfl rfl ?_
    obtain rfl := Option.some.inj hd
    exact v_iretE dX6_rule_99 rfl rfl rfl rfl
  have hd := g_f hd zc6
  by_cases zc7 : a1 = (6 : Int32)
  · have hd := g_t hd zc7
    refine v_tIn (6 : Int32) (tgt := 100) dX6_rule_1 zc7 (by decide) (by decide) rfl (by decide) ?_
    refine v_aload_n dX6_rule_100 rfl ?_
    refine v_get (v := .ref 11) dX6_rule_101 fl_X6_19 rfl rfl ?_
    refine v_get (v := .int (u 11 10)) dX6_rule_104 fl_X6_119 rfl rfl ?_
    obtain rfl := Option.some.inj hd
    exact v_iretE dX6_rule_107 rfl rfl rfl rfl
  have hd := g_f hd zc7
  by_cases zc8 : a1 = (7 : Int32)
  · have hd := g_t hd zc8
    refine v_tIn (7 : Int32) (tgt := 108) dX6_rule_1 zc8 (by decide) (by decide) rfl (by decide) ?_
    refine v_aload_n dX6_rule_108 rfl ?_
    refine v_get (v := .ref 11) dX6_rule_109 fl_X6_19 rfl rfl ?_
    refine v_get (v := .int (u 11 11)) dX6_rule_112 fl_X6_122 rfl rfl ?_
    obtain rfl := Option.some.inj hd
    exact v_iretE dX6_rule_115 rfl rfl rfl rfl
  have hd := g_f hd zc8
  by_cases zc9 : a1 = (8 : Int32)
  · have hd := g_t hd zc9
    refine v_tIn (8 : Int32) (tgt := 116) dX6_rule_1 zc9 (by decide) (by decide) rfl (by decide) ?_
    refine v_aload_n dX6_rule_116 rfl ?_
    refine v_get (v := .ref 11) dX6_rule_117 fl_X6_19 rfl rfl ?_
    obtain ⟨zr10, zh11, hd⟩ := g_bind hd
    refine v_cV (dy := 0) (st := []) (st2 := [.int zr10]) (h2 := (h_F u)) [11, 12, 13, 14, 15] dX6_rule_120 mv_X6_125 (m_C_allWorth (sh u 11) zh11) rfl rfl rfl rfl rfl rfl rfl rfl (by decide) (by decide) rfl rfl rfl ?_
    obtain rfl := Option.some.inj hd
    exact v_iretE dX6_rule_123 rfl rfl rfl rfl
  have hd := g_f hd zc9
  refine v_tOut (tgt := 124) dX6_rule_1 (by have q0 := lv_neT (a := 0) zc1 rfl; have q1 := lv_neT (a := 1) zc2 rfl; have q2 := lv_neT (a := 2) zc3 rfl; have q3 := lv_neT (a := 3) zc4 rfl; have q4 := lv_neT (a := 4) zc5 rfl; have q5 := lv_neT (a := 5) zc6 rfl; have q6 := lv_neT (a := 6) zc7 rfl; have q7 := lv_neT (a := 7) zc8 rfl; have q8 := lv_neT (a := 8) zc9 rfl; omega) (by decide) ?_
  refine v_iconst dX6_rule_124 ic_m1 ?_
  obtain rfl := Option.some.inj hd
  exact v_iretE dX6_rule_125 rfl rfl rfl rfl
theorem m_F_rule (u : (Nat → Nat → Int32)) (a1 : Int32) {r : Int32} (hd : d_F_rule u a1 = some r) : Mt yX6_rule cX6_rule 2 (some .int) (rm 1) [.ref 0, .int a1] (h_F u) (ab_eq (some (.int r)) (h_F u)) := Mt.of (by decide +kernel) (fun _ _ _ => trivial) (Nat.le_of_ble_eq_true rfl) (v_F_rule u a1 hd)
def d_F_house (u : (Nat → Nat → Int32)) (a1 : Int32) (a2 : Int32) : Option Int32 := (d_C_has (sh u 11) a1).bind fun zr1 => if zr1 = 0 then (some (-1 : Int32)) else (if a2 = (0 : Int32) then (if gi a1 5 = true then some ((u 12) a1.toNatClampNeg) else none) else if a2 = (1 : Int32) then (if gi a1 5 = true then some ((u 13) a1.toNatClampNeg) else none) else if a2 = (2 : Int32) then (if gi a1 5 = true then some ((u 14) a1.toNatClampNeg) else none) else (some (-1 : Int32)))
set_option maxRecDepth 100000 in
set_option maxHeartbeats 4000000 in
theorem v_F_house (u : (Nat → Nat → Int32)) (a1 : Int32) (a2 : Int32) {r : Int32} (hd : d_F_house u a1 a2 = some r) : Vd RX6 "house" cX6_house 3 (some .int) (rm 1) (ab_eq (some (.int r)) (h_F u)) 0 0 0 0 0 [(0, .ref 0), (1, .int a1), (2, .int a2)] [] (h_F u) := by
  unfold d_F_house at hd
  refine v_aload_n dX6_house_0 rfl ?_
  refine v_get (v := .ref 11) dX6_house_1 fl_X6_19 rfl rfl ?_
  refine v_iload_n dX6_house_4 rfl ?_
  obtain ⟨zr1, zh2, hd⟩ := g_bind hd
  refine v_cV (dy := 0) (st := []) (st2 := [.int zr1]) (h2 := (h_F u)) [11, 12, 13, 14, 15] dX6_house_5 mv_X6_129 (m_C_has (sh u 11) a1 zh2) rfl rfl rfl rfl rfl rfl rfl rfl (by decide) (by decide) rfl rfl rfl ?_
  refine v_if_ne (tgt := 13) dX6_house_8 (by decide) (fun zc3 => ?_) (fun zc3 => ?_)
  · have hd := g_f hd zc3
    refine v_iload_n dX6_house_13 rfl ?_
    by_cases zc4 : a2 = (0 : Int32)
    · have hd := g_t hd zc4
      refine v_tIn (0 : Int32) (tgt := 40) dX6_house_14 zc4 (by decide) (by decide) rfl (by decide) ?_
      refine v_aload_n dX6_house_40 rfl ?_
      refine v_get (v := .ref 11) dX6_house_41 fl_X6_19 rfl rfl ?_
      refine v_get (v := .ref 12) dX6_house_44 fl_X6_132 rfl rfl ?_
      refine v_iload_n dX6_house_47 rfl ?_
      obtain ⟨zg5, hd⟩ := g_b hd
      refine v_iald (f := (u 12)) dX6_house_48 rfl (gi_in zg5) ?_
      obtain rfl := Option.some.inj hd
      exact v_iretE dX6_house_49 rfl rfl rfl rfl
    have hd := g_f hd zc4
    by_cases zc6 : a2 = (1 : Int32)
    · have hd := g_t hd zc6
      refine v_tIn (1 : Int32) (tgt := 50) dX6_house_14 zc6 (by decide) (by decide) rfl (by decide) ?_
      refine v_aload_n dX6_house_50 rfl ?_
      refine v_get (v := .ref 11) dX6_house_51 fl_X6_19 rfl rfl ?_
      refine v_get (v := .ref 13) dX6_house_54 fl_X6_135 rfl rfl ?_
      refine v_iload_n dX6_house_57 rfl ?_
      obtain ⟨zg7, hd⟩ := g_b hd
      refine v_iald (f := (u 13)) dX6_house_58 rfl (gi_in zg7) ?_
      obtain rfl := Option.some.inj hd
      exact v_iretE dX6_house_59 rfl rfl rfl rfl
    have hd := g_f hd zc6
    by_cases zc8 : a2 = (2 : Int32)
    · have hd := g_t hd zc8
      refine v_tIn (2 : Int32) (tgt := 60) dX6_house_14 zc8 (by decide) (by decide) rfl (by decide) ?_
      refine v_aload_n dX6_house_60 rfl ?_
      refine v_get (v := .ref 11) dX6_house_61 fl_X6_19 rfl rfl ?_
      refine v_get (v := .ref 14) dX6_house_64 fl_X6_138 rfl rfl ?_
      refine v_iload_n dX6_house_67 rfl ?_
      obtain ⟨zg9, hd⟩ := g_b hd
      refine v_iald (f := (u 14)) dX6_house_68 rfl (gi_in zg9) ?_
      obtain rfl := Option.some.inj hd
      exact v_iretE dX6_house_69 rfl rfl rfl rfl
    have hd := g_f hd zc8
    refine v_tOut (tgt := 70) dX6_house_14 (by have q0 := lv_neT (a := 0) zc4 rfl; have q1 := lv_neT (a := 1) zc6 rfl; have q2 := lv_neT (a := 2) zc8 rfl; omega) (by decide) ?_
    refine v_iconst dX6_house_70 ic_m1 ?_
    obtain rfl := Option.some.inj hd
    exact v_iretE dX6_house_71 rfl rfl rfl rfl
  · have hd := g_t hd zc3
    refine v_iconst dX6_house_11 ic_m1 ?_
    obtain rfl := Option.some.inj hd
    exact v_iretE dX6_house_12 rfl rfl rfl rfl
theorem m_F_house (u : (Nat → Nat → Int32)) (a1 : Int32) (a2 : Int32) {r : Int32} (hd : d_F_house u a1 a2 = some r) : Mt yX6_house cX6_house 3 (some .int) (rm 1) [.ref 0, .int a1, .int a2] (h_F u) (ab_eq (some (.int r)) (h_F u)) := Mt.of (by decide +kernel) (fun _ _ _ => trivial) (Nat.le_of_ble_eq_true rfl) (v_F_house u a1 a2 hd)

def d_F_alter_61  (u : (Nat → Nat → Int32)) (x1 : Int32) (x3 : Int32) : Option (Int32 × (Nat → Nat → Int32)) := if gi x1 5 = true then dl ((u 13) x1.toNatClampNeg) fun zy13 => if gi x1 5 = true then some (zy13, (pw u 13 x1.toNatClampNeg x3)) else none else none
set_option maxRecDepth 100000 in
set_option maxHeartbeats 4000000 in
theorem v_F_alter_61  {r : Int32 × (Nat → Nat → Int32)}  (u : (Nat → Nat → Int32)) (x1 : Int32) (x3 : Int32) (hd : d_F_alter_61  u x1 x3 = some r) : Vd RX6 "alter" cX6_alter 6 (some .int) (rm 1) (ab_eq (some (.int r.1)) (h_F r.2)) 0 0 0 0 61 [(1, .int x1), (3, .int x3)] [.ref 13] (h_F u) := by
  unfold d_F_alter_61 at hd
  refine v_astore (i := 4) (L2 := [(4, .ref 13), (1, .int x1), (3, .int x3)]) dX6_alter_61 (Nat.le_of_ble_eq_true rfl) rfl ?_
  refine v_aload dX6_alter_63 rfl ?_
  refine v_iload_n dX6_alter_65 rfl ?_
  obtain ⟨zg12, hd⟩ := g_b hd
  refine v_iald (f := (u 13)) dX6_alter_66 rfl (gi_in zg12) ?_
  refine v_topi (fun zy13 ze14 => ?_)
  have hd := dl_n hd zy13 ze14
  refine v_istore (i := 5) (L2 := [(5, .int zy13), (4, .ref 13), (1, .int x1), (3, .int x3)]) dX6_alter_67 (Nat.le_of_ble_eq_true rfl) rfl ?_
  refine v_aload dX6_alter_69 rfl ?_
  refine v_iload_n dX6_alter_71 rfl ?_
  refine v_iload_n dX6_alter_72 rfl ?_
  obtain ⟨zg15, hd⟩ := g_b hd
  refine v_ist (f := (u 13)) (h2 := (h_F (pw u 13 x1.toNatClampNeg x3))) dX6_alter_73 rfl (gi_in zg15) rfl ?_
  refine v_iload dX6_alter_74 rfl ?_
  obtain rfl := Option.some.inj hd
  exact v_iretE dX6_alter_76 rfl rfl rfl rfl

def d_F_alter_61b  (u : (Nat → Nat → Int32)) (x1 : Int32) (x3 : Int32) : Option (Int32 × (Nat → Nat → Int32)) := if gi x1 5 = true then dl ((u 12) x1.toNatClampNeg) fun zy17 => if gi x1 5 = true then some (zy17, (pw u 12 x1.toNatClampNeg x3)) else none else none
set_option maxRecDepth 100000 in
set_option maxHeartbeats 4000000 in
theorem v_F_alter_61b  {r : Int32 × (Nat → Nat → Int32)}  (u : (Nat → Nat → Int32)) (x1 : Int32) (x3 : Int32) (hd : d_F_alter_61b  u x1 x3 = some r) : Vd RX6 "alter" cX6_alter 6 (some .int) (rm 1) (ab_eq (some (.int r.1)) (h_F r.2)) 0 0 0 0 61 [(1, .int x1), (3, .int x3)] [.ref 12] (h_F u) := by
  unfold d_F_alter_61b at hd
  refine v_astore (i := 4) (L2 := [(4, .ref 12), (1, .int x1), (3, .int x3)]) dX6_alter_61 (Nat.le_of_ble_eq_true rfl) rfl ?_
  refine v_aload dX6_alter_63 rfl ?_
  refine v_iload_n dX6_alter_65 rfl ?_
  obtain ⟨zg16, hd⟩ := g_b hd
  refine v_iald (f := (u 12)) dX6_alter_66 rfl (gi_in zg16) ?_
  refine v_topi (fun zy17 ze18 => ?_)
  have hd := dl_n hd zy17 ze18
  refine v_istore (i := 5) (L2 := [(5, .int zy17), (4, .ref 12), (1, .int x1), (3, .int x3)]) dX6_alter_67 (Nat.le_of_ble_eq_true rfl) rfl ?_
  refine v_aload dX6_alter_69 rfl ?_
  refine v_iload_n dX6_alter_71 rfl ?_
  refine v_iload_n dX6_alter_72 rfl ?_
  obtain ⟨zg19, hd⟩ := g_b hd
  refine v_ist (f := (u 12)) (h2 := (h_F (pw u 12 x1.toNatClampNeg x3))) dX6_alter_73 rfl (gi_in zg19) rfl ?_
  refine v_iload dX6_alter_74 rfl ?_
  obtain rfl := Option.some.inj hd
  exact v_iretE dX6_alter_76 rfl rfl rfl rfl

def d_F_alter_32  (u : (Nat → Nat → Int32)) (x1 : Int32) (x2 : Int32) (x3 : Int32) (s0 : Int32) (s1 : Int32) (s2 : Int32) : Option (Int32 × (Nat → Nat → Int32)) := (d_P_outside s0 s1 s2).bind fun zr8 => if zr8 = 0 then (if x2 = 0 then (d_F_alter_61b u x1 x3) else (d_F_alter_61 u x1 x3)) else (some ((-1 : Int32), u))
set_option maxRecDepth 100000 in
set_option maxHeartbeats 4000000 in
theorem v_F_alter_32  {r : Int32 × (Nat → Nat → Int32)}  (u : (Nat → Nat → Int32)) (x1 : Int32) (x2 : Int32) (x3 : Int32) (s0 : Int32) (s1 : Int32) (s2 : Int32) (hd : d_F_alter_32  u x1 x2 x3 s0 s1 s2 = some r) : Vd RX6 "alter" cX6_alter 6 (some .int) (rm 1) (ab_eq (some (.int r.1)) (h_F r.2)) 0 0 0 0 32 [(0, .ref 0), (1, .int x1), (2, .int x2), (3, .int x3)] [.int s2, .int s1, .int s0] (h_F u) := by
  unfold d_F_alter_32 at hd
  obtain ⟨zr8, zh9, hd⟩ := g_bind hd
  refine v_cS (dy := 0) (st := []) (st2 := [.int zr8]) (h2 := (h_F u)) [] dX6_alter_32 mz_X6_54 (m_P_outside s0 s1 s2 zh9) rfl rfl rfl rfl rfl rfl (by decide) (by decide) rfl rfl rfl ?_
  refine v_if_eq (tgt := 40) dX6_alter_35 (by decide) (fun zc10 => ?_) (fun zc10 => ?_)
  · have hd := g_t hd zc10
    refine v_iload_n dX6_alter_40 rfl ?_
    refine v_if_ne (tgt := 54) dX6_alter_41 (by decide) (fun zc11 => ?_) (fun zc11 => ?_)
    · have hd := g_f hd zc11
      refine v_aload_n dX6_alter_54 rfl ?_
      refine v_get (v := .ref 11) dX6_alter_55 fl_X6_19 rfl rfl ?_
      refine v_get (v := .ref 13) dX6_alter_58 fl_X6_135 rfl rfl ?_
      refine v_loc [1, 3] rfl ?_
      exact v_F_alter_61 u x1 x3 hd
    · have hd := g_t hd zc11
      refine v_aload_n dX6_alter_44 rfl ?_
      refine v_get (v := .ref 11) dX6_alter_45 fl_X6_19 rfl rfl ?_
      refine v_get (v := .ref 12) dX6_alter_48 fl_X6_132 rfl rfl ?_
      refine v_goto (tgt := 61) dX6_alter_51 (by decide) ?_
      refine v_loc [1, 3] rfl ?_
      exact v_F_alter_61b u x1 x3 hd
  · have hd := g_f hd zc10
    refine v_iconst dX6_alter_38 ic_m1 ?_
    obtain rfl := Option.some.inj hd
    exact v_iretE dX6_alter_39 rfl rfl rfl rfl
def d_F_alter (u : (Nat → Nat → Int32)) (a1 : Int32) (a2 : Int32) (a3 : Int32) : Option (Int32 × (Nat → Nat → Int32)) := (d_C_has (sh u 11) a1).bind fun zr1 => if zr1 = 0 then (some ((-1 : Int32), u)) else ((d_P_outside a2 (0 : Int32) (1 : Int32)).bind fun zr4 => if zr4 = 0 then (if a2 = 0 then (d_F_alter_32 u a1 a2 a3 a3 (0 : Int32) (3 : Int32)) else (d_F_alter_32 u a1 a2 a3 a3 (0 : Int32) (99 : Int32))) else (some ((-1 : Int32), u)))
set_option maxRecDepth 100000 in
set_option maxHeartbeats 4000000 in
theorem v_F_alter (u : (Nat → Nat → Int32)) (a1 : Int32) (a2 : Int32) (a3 : Int32) {r : Int32 × (Nat → Nat → Int32)} (hd : d_F_alter u a1 a2 a3 = some r) : Vd RX6 "alter" cX6_alter 6 (some .int) (rm 1) (ab_eq (some (.int r.1)) (h_F r.2)) 0 0 0 0 0 [(0, .ref 0), (1, .int a1), (2, .int a2), (3, .int a3)] [] (h_F u) := by
  unfold d_F_alter at hd
  refine v_aload_n dX6_alter_0 rfl ?_
  refine v_get (v := .ref 11) dX6_alter_1 fl_X6_19 rfl rfl ?_
  refine v_iload_n dX6_alter_4 rfl ?_
  obtain ⟨zr1, zh2, hd⟩ := g_bind hd
  refine v_cV (dy := 0) (st := []) (st2 := [.int zr1]) (h2 := (h_F u)) [11, 12, 13, 14, 15] dX6_alter_5 mv_X6_129 (m_C_has (sh u 11) a1 zh2) rfl rfl rfl rfl rfl rfl rfl rfl (by decide) (by decide) rfl rfl rfl ?_
  refine v_if_eq (tgt := 38) dX6_alter_8 (by decide) (fun zc3 => ?_) (fun zc3 => ?_)
  · have hd := g_t hd zc3
    refine v_iconst dX6_alter_38 ic_m1 ?_
    obtain rfl := Option.some.inj hd
    exact v_iretE dX6_alter_39 rfl rfl rfl rfl
  · have hd := g_f hd zc3
    refine v_iload_n dX6_alter_11 rfl ?_
    refine v_iconst dX6_alter_12 ic_0 ?_
    refine v_iconst dX6_alter_13 ic_1 ?_
    obtain ⟨zr4, zh5, hd⟩ := g_bind hd
    refine v_cS (dy := 0) (st := []) (st2 := [.int zr4]) (h2 := (h_F u)) [] dX6_alter_14 mz_X6_54 (m_P_outside a2 (0 : Int32) (1 : Int32) zh5) rfl rfl rfl rfl rfl rfl (by decide) (by decide) rfl rfl rfl ?_
    refine v_if_ne (tgt := 38) dX6_alter_17 (by decide) (fun zc6 => ?_) (fun zc6 => ?_)
    · have hd := g_f hd zc6
      refine v_iconst dX6_alter_38 ic_m1 ?_
      obtain rfl := Option.some.inj hd
      exact v_iretE dX6_alter_39 rfl rfl rfl rfl
    · have hd := g_t hd zc6
      refine v_iload_n dX6_alter_20 rfl ?_
      refine v_iconst dX6_alter_21 ic_0 ?_
      refine v_iload_n dX6_alter_22 rfl ?_
      refine v_if_ne (tgt := 30) dX6_alter_23 (by decide) (fun zc7 => ?_) (fun zc7 => ?_)
      · have hd := g_f hd zc7
        refine v_bipush dX6_alter_30 bp_99 ?_
        exact v_F_alter_32 u a1 a2 a3 a3 (0 : Int32) (99 : Int32) hd
      · have hd := g_t hd zc7
        refine v_iconst dX6_alter_26 ic_3 ?_
        refine v_goto (tgt := 32) dX6_alter_27 (by decide) ?_
        exact v_F_alter_32 u a1 a2 a3 a3 (0 : Int32) (3 : Int32) hd
theorem m_F_alter (u : (Nat → Nat → Int32)) (a1 : Int32) (a2 : Int32) (a3 : Int32) {r : Int32 × (Nat → Nat → Int32)} (hd : d_F_alter u a1 a2 a3 = some r) : Mt yX6_alter cX6_alter 6 (some .int) (rm 1) [.ref 0, .int a1, .int a2, .int a3] (h_F u) (ab_eq (some (.int r.1)) (h_F r.2)) := Mt.of (by decide +kernel) (fun _ _ _ => trivial) (Nat.le_of_ble_eq_true rfl) (v_F_alter u a1 a2 a3 hd)

def d_F_set_71  (u : (Nat → Nat → Int32)) (x1 : Int32) (x2 : Int32) (x3 : Int32) : Option (Int32 × (Nat → Nat → Int32)) := if x1 = (3 : Int32) then ((d_P_outside x2 (0 : Int32) (9 : Int32)).bind fun zr4 => if zr4 = 0 then (dl (u 11 7) fun zy7 => some (zy7, (pw u 11 7 x2))) else (some (x3, u))) else (some (x3, u))
set_option maxRecDepth 100000 in
set_option maxHeartbeats 4000000 in
theorem v_F_set_71  {r : Int32 × (Nat → Nat → Int32)}  (u : (Nat → Nat → Int32)) (x1 : Int32) (x2 : Int32) (x3 : Int32) (hd : d_F_set_71  u x1 x2 x3 = some r) : Vd RX6 "set" cX6_set 4 (some .int) (rm 1) (ab_eq (some (.int r.1)) (h_F r.2)) 0 0 0 0 71 [(0, .ref 0), (1, .int x1), (2, .int x2), (3, .int x3)] [] (h_F u) := by
  unfold d_F_set_71 at hd
  refine v_iload_n dX6_set_71 rfl ?_
  refine v_iconst dX6_set_72 ic_3 ?_
  refine v_icmp_ne (tgt := 102) dX6_set_73 (by decide) (fun zc3 => ?_) (fun zc3 => ?_)
  · have hd := g_f hd zc3
    refine v_iload_n dX6_set_102 rfl ?_
    obtain rfl := Option.some.inj hd
    exact v_iretE dX6_set_103 rfl rfl rfl rfl
  · have hd := g_t hd zc3
    refine v_iload_n dX6_set_76 rfl ?_
    refine v_iconst dX6_set_77 ic_0 ?_
    refine v_bipush dX6_set_78 bp_9 ?_
    obtain ⟨zr4, zh5, hd⟩ := g_bind hd
    refine v_cS (dy := 0) (st := []) (st2 := [.int zr4]) (h2 := (h_F u)) [] dX6_set_80 mz_X6_54 (m_P_outside x2 (0 : Int32) (9 : Int32) zh5) rfl rfl rfl rfl rfl rfl (by decide) (by decide) rfl rfl rfl ?_
    refine v_if_ne (tgt := 102) dX6_set_83 (by decide) (fun zc6 => ?_) (fun zc6 => ?_)
    · have hd := g_f hd zc6
      refine v_iload_n dX6_set_102 rfl ?_
      obtain rfl := Option.some.inj hd
      exact v_iretE dX6_set_103 rfl rfl rfl rfl
    · have hd := g_t hd zc6
      refine v_aload_n dX6_set_86 rfl ?_
      refine v_get (v := .ref 11) dX6_set_87 fl_X6_19 rfl rfl ?_
      refine v_get (v := .int (u 11 7)) dX6_set_90 fl_X6_110 rfl rfl ?_
      refine v_topi (fun zy7 ze8 => ?_)
      have hd := dl_n hd zy7 ze8
      refine v_istore_n (i := 3) (L2 := [(3, .int zy7), (0, .ref 0), (1, .int x1), (2, .int x2)]) dX6_set_93 rfl (Nat.le_of_ble_eq_true rfl) rfl ?_
      refine v_aload_n dX6_set_94 rfl ?_
      refine v_get (v := .ref 11) dX6_set_95 fl_X6_19 rfl rfl ?_
      refine v_iload_n dX6_set_98 rfl ?_
      refine v_pti (h2 := (h_F (pw u 11 7 x2))) dX6_set_99 fl_X6_110 rfl (Nat.le_of_ble_eq_true rfl) rfl ?_
      refine v_iload_n dX6_set_102 rfl ?_
      obtain rfl := Option.some.inj hd
      exact v_iretE dX6_set_103 rfl rfl rfl rfl

def d_F_set_37  (u : (Nat → Nat → Int32)) (x1 : Int32) (x2 : Int32) (x3 : Int32) : Option (Int32 × (Nat → Nat → Int32)) := if x1 = (2 : Int32) then ((d_P_outside x2 (0 : Int32) (20 : Int32)).bind fun zr9 => if zr9 = 0 then (dl (u 11 6) fun zy12 => some (zy12, (pw u 11 6 x2))) else (d_F_set_71 u x1 x2 x3)) else (d_F_set_71 u x1 x2 x3)
set_option maxRecDepth 100000 in
set_option maxHeartbeats 4000000 in
theorem v_F_set_37  {r : Int32 × (Nat → Nat → Int32)}  (u : (Nat → Nat → Int32)) (x1 : Int32) (x2 : Int32) (x3 : Int32) (hd : d_F_set_37  u x1 x2 x3 = some r) : Vd RX6 "set" cX6_set 4 (some .int) (rm 1) (ab_eq (some (.int r.1)) (h_F r.2)) 0 0 0 0 37 [(0, .ref 0), (1, .int x1), (2, .int x2), (3, .int x3)] [] (h_F u) := by
  unfold d_F_set_37 at hd
  refine v_iload_n dX6_set_37 rfl ?_
  refine v_iconst dX6_set_38 ic_2 ?_
  refine v_icmp_ne (tgt := 71) dX6_set_39 (by decide) (fun zc2 => ?_) (fun zc2 => ?_)
  · have hd := g_f hd zc2
    exact v_F_set_71 u x1 x2 x3 hd
  · have hd := g_t hd zc2
    refine v_iload_n dX6_set_42 rfl ?_
    refine v_iconst dX6_set_43 ic_0 ?_
    refine v_bipush dX6_set_44 bp_20 ?_
    obtain ⟨zr9, zh10, hd⟩ := g_bind hd
    refine v_cS (dy := 0) (st := []) (st2 := [.int zr9]) (h2 := (h_F u)) [] dX6_set_46 mz_X6_54 (m_P_outside x2 (0 : Int32) (20 : Int32) zh10) rfl rfl rfl rfl rfl rfl (by decide) (by decide) rfl rfl rfl ?_
    refine v_if_ne (tgt := 71) dX6_set_49 (by decide) (fun zc11 => ?_) (fun zc11 => ?_)
    · have hd := g_f hd zc11
      exact v_F_set_71 u x1 x2 x3 hd
    · have hd := g_t hd zc11
      refine v_aload_n dX6_set_52 rfl ?_
      refine v_get (v := .ref 11) dX6_set_53 fl_X6_19 rfl rfl ?_
      refine v_get (v := .int (u 11 6)) dX6_set_56 fl_X6_107 rfl rfl ?_
      refine v_topi (fun zy12 ze13 => ?_)
      have hd := dl_n hd zy12 ze13
      refine v_istore_n (i := 3) (L2 := [(3, .int zy12), (0, .ref 0), (1, .int x1), (2, .int x2)]) dX6_set_59 rfl (Nat.le_of_ble_eq_true rfl) rfl ?_
      refine v_aload_n dX6_set_60 rfl ?_
      refine v_get (v := .ref 11) dX6_set_61 fl_X6_19 rfl rfl ?_
      refine v_iload_n dX6_set_64 rfl ?_
      refine v_pti (h2 := (h_F (pw u 11 6 x2))) dX6_set_65 fl_X6_107 rfl (Nat.le_of_ble_eq_true rfl) rfl ?_
      refine v_goto (tgt := 102) dX6_set_68 (by decide) ?_
      refine v_iload_n dX6_set_102 rfl ?_
      obtain rfl := Option.some.inj hd
      exact v_iretE dX6_set_103 rfl rfl rfl rfl
def d_F_set (u : (Nat → Nat → Int32)) (a1 : Int32) (a2 : Int32) : Option (Int32 × (Nat → Nat → Int32)) := if a1 = (1 : Int32) then ((d_C_has (sh u 11) a2).bind fun zr14 => if zr14 = 0 then (d_F_set_37 u a1 a2 (-1 : Int32)) else (dl (u 11 5) fun zy17 => some (zy17, (pw u 11 5 a2)))) else (d_F_set_37 u a1 a2 (-1 : Int32))
set_option maxRecDepth 100000 in
set_option maxHeartbeats 4000000 in
theorem v_F_set (u : (Nat → Nat → Int32)) (a1 : Int32) (a2 : Int32) {r : Int32 × (Nat → Nat → Int32)} (hd : d_F_set u a1 a2 = some r) : Vd RX6 "set" cX6_set 4 (some .int) (rm 1) (ab_eq (some (.int r.1)) (h_F r.2)) 0 0 0 0 0 [(0, .ref 0), (1, .int a1), (2, .int a2)] [] (h_F u) := by
  unfold d_F_set at hd
  refine v_iconst dX6_set_0 ic_m1 ?_
  refine v_istore_n (i := 3) (L2 := [(3, .int (-1 : Int32)), (0, .ref 0), (1, .int a1), (2, .int a2)]) dX6_set_1 rfl (Nat.le_of_ble_eq_true rfl) rfl ?_
  refine v_iload_n dX6_set_2 rfl ?_
  refine v_iconst dX6_set_3 ic_1 ?_
  refine v_icmp_ne (tgt := 37) dX6_set_4 (by decide) (fun zc1 => ?_) (fun zc1 => ?_)
  · have hd := g_f hd zc1
    refine v_loc [1, 2, 3, 0] rfl ?_
    exact v_F_set_37 u a1 a2 (-1 : Int32) hd
  · have hd := g_t hd zc1
    refine v_aload_n dX6_set_7 rfl ?_
    refine v_get (v := .ref 11) dX6_set_8 fl_X6_19 rfl rfl ?_
    refine v_iload_n dX6_set_11 rfl ?_
    obtain ⟨zr14, zh15, hd⟩ := g_bind hd
    refine v_cV (dy := 0) (st := []) (st2 := [.int zr14]) (h2 := (h_F u)) [11, 12, 13, 14, 15] dX6_set_12 mv_X6_129 (m_C_has (sh u 11) a2 zh15) rfl rfl rfl rfl rfl rfl rfl rfl (by decide) (by decide) rfl rfl rfl ?_
    refine v_if_eq (tgt := 37) dX6_set_15 (by decide) (fun zc16 => ?_) (fun zc16 => ?_)
    · have hd := g_t hd zc16
      refine v_loc [1, 2, 3, 0] rfl ?_
      exact v_F_set_37 u a1 a2 (-1 : Int32) hd
    · have hd := g_f hd zc16
      refine v_aload_n dX6_set_18 rfl ?_
      refine v_get (v := .ref 11) dX6_set_19 fl_X6_19 rfl rfl ?_
      refine v_get (v := .int (u 11 5)) dX6_set_22 fl_X6_104 rfl rfl ?_
      refine v_topi (fun zy17 ze18 => ?_)
      have hd := dl_n hd zy17 ze18
      refine v_istore_n (i := 3) (L2 := [(3, .int zy17), (0, .ref 0), (1, .int a1), (2, .int a2)]) dX6_set_25 rfl (Nat.le_of_ble_eq_true rfl) rfl ?_
      refine v_aload_n dX6_set_26 rfl ?_
      refine v_get (v := .ref 11) dX6_set_27 fl_X6_19 rfl rfl ?_
      refine v_iload_n dX6_set_30 rfl ?_
      refine v_pti (h2 := (h_F (pw u 11 5 a2))) dX6_set_31 fl_X6_104 rfl (Nat.le_of_ble_eq_true rfl) rfl ?_
      refine v_goto (tgt := 102) dX6_set_34 (by decide) ?_
      refine v_iload_n dX6_set_102 rfl ?_
      obtain rfl := Option.some.inj hd
      exact v_iretE dX6_set_103 rfl rfl rfl rfl
theorem m_F_set (u : (Nat → Nat → Int32)) (a1 : Int32) (a2 : Int32) {r : Int32 × (Nat → Nat → Int32)} (hd : d_F_set u a1 a2 = some r) : Mt yX6_set cX6_set 4 (some .int) (rm 1) [.ref 0, .int a1, .int a2] (h_F u) (ab_eq (some (.int r.1)) (h_F r.2)) := Mt.of (by decide +kernel) (fun _ _ _ => trivial) (Nat.le_of_ble_eq_true rfl) (v_F_set u a1 a2 hd)
def d_F_rain (u : (Nat → Nat → Int32)) (a1 : Int32) (a2 : Int32) : Option (Int32 × (Nat → Nat → Int32)) := (d_P_outside a1 (0 : Int32) (6 : Int32)).bind fun zr1 => if zr1 = 0 then (dl (((u 11 8) >>> (a1 &&& 31)) &&& (1 : Int32)) fun zy4 => dl ((u 11 8) &&& (((1 : Int32) <<< (a1 &&& 31)) ^^^ (-1 : Int32))) fun zy6 => if a2 = 0 then (some (zy4, (pw u 11 8 zy6))) else (dl (zy6 ||| ((1 : Int32) <<< (a1 &&& 31))) fun zy9 => some (zy4, (pw u 11 8 zy9)))) else (some ((-1 : Int32), u))
set_option maxRecDepth 100000 in
set_option maxHeartbeats 4000000 in
theorem v_F_rain (u : (Nat → Nat → Int32)) (a1 : Int32) (a2 : Int32) {r : Int32 × (Nat → Nat → Int32)} (hd : d_F_rain u a1 a2 = some r) : Vd RX6 "rain" cX6_rain 5 (some .int) (rm 1) (ab_eq (some (.int r.1)) (h_F r.2)) 0 0 0 0 0 [(0, .ref 0), (1, .int a1), (2, .int a2)] [] (h_F u) := by
  unfold d_F_rain at hd
  refine v_iload_n dX6_rain_0 rfl ?_
  refine v_iconst dX6_rain_1 ic_0 ?_
  refine v_bipush dX6_rain_2 bp_6 ?_
  obtain ⟨zr1, zh2, hd⟩ := g_bind hd
  refine v_cS (dy := 0) (st := []) (st2 := [.int zr1]) (h2 := (h_F u)) [] dX6_rain_4 mz_X6_54 (m_P_outside a1 (0 : Int32) (6 : Int32) zh2) rfl rfl rfl rfl rfl rfl (by decide) (by decide) rfl rfl rfl ?_
  refine v_if_eq (tgt := 12) dX6_rain_7 (by decide) (fun zc3 => ?_) (fun zc3 => ?_)
  · have hd := g_t hd zc3
    refine v_aload_n dX6_rain_12 rfl ?_
    refine v_get (v := .ref 11) dX6_rain_13 fl_X6_19 rfl rfl ?_
    refine v_get (v := .int (u 11 8)) dX6_rain_16 fl_X6_113 rfl rfl ?_
    refine v_iload_n dX6_rain_19 rfl ?_
    refine v_ishr dX6_rain_20 ?_
    refine v_iconst dX6_rain_21 ic_1 ?_
    refine v_iand dX6_rain_22 ?_
    refine v_topi (fun zy4 ze5 => ?_)
    have hd := dl_n hd zy4 ze5
    refine v_istore_n (i := 3) (L2 := [(3, .int zy4), (0, .ref 0), (1, .int a1), (2, .int a2)]) dX6_rain_23 rfl (Nat.le_of_ble_eq_true rfl) rfl ?_
    refine v_aload_n dX6_rain_24 rfl ?_
    refine v_get (v := .ref 11) dX6_rain_25 fl_X6_19 rfl rfl ?_
    refine v_get (v := .int (u 11 8)) dX6_rain_28 fl_X6_113 rfl rfl ?_
    refine v_iconst dX6_rain_31 ic_1 ?_
    refine v_iload_n dX6_rain_32 rfl ?_
    refine v_ishl dX6_rain_33 ?_
    refine v_iconst dX6_rain_34 ic_m1 ?_
    refine v_ixor dX6_rain_35 ?_
    refine v_iand dX6_rain_36 ?_
    refine v_topi (fun zy6 ze7 => ?_)
    have hd := dl_n hd zy6 ze7
    refine v_istore (i := 4) (L2 := [(4, .int zy6), (3, .int zy4), (0, .ref 0), (1, .int a1), (2, .int a2)]) dX6_rain_37 (Nat.le_of_ble_eq_true rfl) rfl ?_
    refine v_aload_n dX6_rain_39 rfl ?_
    refine v_get (v := .ref 11) dX6_rain_40 fl_X6_19 rfl rfl ?_
    refine v_iload_n dX6_rain_43 rfl ?_
    refine v_if_eq (tgt := 56) dX6_rain_44 (by decide) (fun zc8 => ?_) (fun zc8 => ?_)
    · have hd := g_t hd zc8
      refine v_iload dX6_rain_56 rfl ?_
      refine v_pti (h2 := (h_F (pw u 11 8 zy6))) dX6_rain_58 fl_X6_113 rfl (Nat.le_of_ble_eq_true rfl) rfl ?_
      refine v_iload_n dX6_rain_61 rfl ?_
      obtain rfl := Option.some.inj hd
      exact v_iretE dX6_rain_62 rfl rfl rfl rfl
    · have hd := g_f hd zc8
      refine v_iload dX6_rain_47 rfl ?_
      refine v_iconst dX6_rain_49 ic_1 ?_
      refine v_iload_n dX6_rain_50 rfl ?_
      refine v_ishl dX6_rain_51 ?_
      refine v_ior dX6_rain_52 ?_
      refine v_goto (tgt := 58) dX6_rain_53 (by decide) ?_
      refine v_topi (fun zy9 ze10 => ?_)
      have hd := dl_n hd zy9 ze10
      refine v_pti (h2 := (h_F (pw u 11 8 zy9))) dX6_rain_58 fl_X6_113 rfl (Nat.le_of_ble_eq_true rfl) rfl ?_
      refine v_iload_n dX6_rain_61 rfl ?_
      obtain rfl := Option.some.inj hd
      exact v_iretE dX6_rain_62 rfl rfl rfl rfl
  · have hd := g_f hd zc3
    refine v_iconst dX6_rain_10 ic_m1 ?_
    obtain rfl := Option.some.inj hd
    exact v_iretE dX6_rain_11 rfl rfl rfl rfl
theorem m_F_rain (u : (Nat → Nat → Int32)) (a1 : Int32) (a2 : Int32) {r : Int32 × (Nat → Nat → Int32)} (hd : d_F_rain u a1 a2 = some r) : Mt yX6_rain cX6_rain 5 (some .int) (rm 1) [.ref 0, .int a1, .int a2] (h_F u) (ab_eq (some (.int r.1)) (h_F r.2)) := Mt.of (by decide +kernel) (fun _ _ _ => trivial) (Nat.le_of_ble_eq_true rfl) (v_F_rain u a1 a2 hd)
def d_F_offer (u : (Nat → Nat → Int32)) (a1 : Int32) (a2 : Int32) : Option (Int32 × (Nat → Nat → Int32)) := (d_C_giveAhead (sh u 11) a1 a2).bind fun zr1 => some (zr1.1, (pt u 11 5 zr1.2))
set_option maxRecDepth 100000 in
set_option maxHeartbeats 4000000 in
theorem v_F_offer (u : (Nat → Nat → Int32)) (a1 : Int32) (a2 : Int32) {r : Int32 × (Nat → Nat → Int32)} (hd : d_F_offer u a1 a2 = some r) : Vd RX6 "offer" cX6_offer 3 (some .int) (rm 3) (ab_eq (some (.int r.1)) (h_F r.2)) 0 0 0 0 0 [(0, .ref 0), (1, .int a1), (2, .int a2)] [] (h_F u) := by
  unfold d_F_offer at hd
  refine v_aload_n dX6_offer_0 rfl ?_
  refine v_get (v := .ref 11) dX6_offer_1 fl_X6_19 rfl rfl ?_
  refine v_iload_n dX6_offer_4 rfl ?_
  refine v_iload_n dX6_offer_5 rfl ?_
  obtain ⟨zr1, zh2, hd⟩ := g_bind hd
  refine v_cV (dy := 2) (st := []) (st2 := [.int zr1.1]) (h2 := (h_F (pt u 11 5 zr1.2))) [11, 12, 13, 14, 15] dX6_offer_6 mv_X6_141 (m_C_giveAhead (sh u 11) a1 a2 zh2) rfl rfl rfl rfl rfl rfl rfl rfl (by decide) (by decide) rfl rfl rfl ?_
  obtain rfl := Option.some.inj hd
  exact v_iretE dX6_offer_9 rfl rfl rfl rfl
theorem m_F_offer (u : (Nat → Nat → Int32)) (a1 : Int32) (a2 : Int32) {r : Int32 × (Nat → Nat → Int32)} (hd : d_F_offer u a1 a2 = some r) : Mt yX6_offer cX6_offer 3 (some .int) (rm 3) [.ref 0, .int a1, .int a2] (h_F u) (ab_eq (some (.int r.1)) (h_F r.2)) := Mt.of (by decide +kernel) (fun _ _ _ => trivial) (Nat.le_of_ble_eq_true rfl) (v_F_offer u a1 a2 hd)
def d_F_go (u : (Nat → Nat → Int32)) (a1 : Int32) : Option (Int32 × (Nat → Nat → Int32)) := (d_P_outside a1 (0 : Int32) (30 : Int32)).bind fun zr1 => if zr1 = 0 then (if ((u 11 9) + a1) ≤ (999 : Int32) then (dl (u 11 10) fun zy5 => (d_C_passNights (sh u 11) a1).bind fun zr7 => some (((zr7 0 10) - zy5), (pt u 11 5 zr7))) else (some ((-3 : Int32), u))) else (some ((-1 : Int32), u))
set_option maxRecDepth 100000 in
set_option maxHeartbeats 4000000 in
theorem v_F_go (u : (Nat → Nat → Int32)) (a1 : Int32) {r : Int32 × (Nat → Nat → Int32)} (hd : d_F_go u a1 = some r) : Vd RX6 "go" cX6_go 3 (some .int) (rm 5) (ab_eq (some (.int r.1)) (h_F r.2)) 0 0 0 0 0 [(0, .ref 0), (1, .int a1)] [] (h_F u) := by
  unfold d_F_go at hd
  refine v_iload_n dX6_go_0 rfl ?_
  refine v_iconst dX6_go_1 ic_0 ?_
  refine v_bipush dX6_go_2 bp_30 ?_
  obtain ⟨zr1, zh2, hd⟩ := g_bind hd
  refine v_cS (dy := 0) (st := []) (st2 := [.int zr1]) (h2 := (h_F u)) [] dX6_go_4 mz_X6_54 (m_P_outside a1 (0 : Int32) (30 : Int32) zh2) rfl rfl rfl rfl rfl rfl (by decide) (by decide) rfl rfl rfl ?_
  refine v_if_eq (tgt := 12) dX6_go_7 (by decide) (fun zc3 => ?_) (fun zc3 => ?_)
  · have hd := g_t hd zc3
    refine v_aload_n dX6_go_12 rfl ?_
    refine v_get (v := .ref 11) dX6_go_13 fl_X6_19 rfl rfl ?_
    refine v_get (v := .int (u 11 9)) dX6_go_16 fl_X6_116 rfl rfl ?_
    refine v_iload_n dX6_go_19 rfl ?_
    refine v_iadd dX6_go_20 ?_
    refine v_sipush dX6_go_21 sp_999 ?_
    refine v_icmp_le (tgt := 30) dX6_go_24 (by decide) (fun zc4 => ?_) (fun zc4 => ?_)
    · have hd := g_t hd zc4
      refine v_aload_n dX6_go_30 rfl ?_
      refine v_get (v := .ref 11) dX6_go_31 fl_X6_19 rfl rfl ?_
      refine v_get (v := .int (u 11 10)) dX6_go_34 fl_X6_119 rfl rfl ?_
      refine v_topi (fun zy5 ze6 => ?_)
      have hd := dl_n hd zy5 ze6
      refine v_istore_n (i := 2) (L2 := [(2, .int zy5), (0, .ref 0), (1, .int a1)]) dX6_go_37 rfl (Nat.le_of_ble_eq_true rfl) rfl ?_
      refine v_aload_n dX6_go_38 rfl ?_
      refine v_get (v := .ref 11) dX6_go_39 fl_X6_19 rfl rfl ?_
      refine v_iload_n dX6_go_42 rfl ?_
      obtain ⟨zr7, zh8, hd⟩ := g_bind hd
      refine v_cV (dy := 4) (st := []) (st2 := []) (h2 := (h_F (pt u 11 5 zr7))) [11, 12, 13, 14, 15] dX6_go_43 mv_X6_145 (m_C_passNights (sh u 11) a1 zh8) rfl rfl rfl rfl rfl rfl rfl rfl (by decide) (by decide) rfl rfl rfl ?_
      refine v_aload_n dX6_go_46 rfl ?_
      refine v_get (v := .ref 11) dX6_go_47 fl_X6_19 rfl rfl ?_
      refine v_get (v := .int (zr7 0 10)) dX6_go_50 fl_X6_119 rfl rfl ?_
      refine v_iload_n dX6_go_53 rfl ?_
      refine v_isub dX6_go_54 ?_
      obtain rfl := Option.some.inj hd
      exact v_iretE dX6_go_55 rfl rfl rfl rfl
    · have hd := g_f hd zc4
      refine v_bipush dX6_go_27 bp_m3 ?_
      obtain rfl := Option.some.inj hd
      exact v_iretE dX6_go_29 rfl rfl rfl rfl
  · have hd := g_f hd zc3
    refine v_iconst dX6_go_10 ic_m1 ?_
    obtain rfl := Option.some.inj hd
    exact v_iretE dX6_go_11 rfl rfl rfl rfl
theorem m_F_go (u : (Nat → Nat → Int32)) (a1 : Int32) {r : Int32 × (Nat → Nat → Int32)} (hd : d_F_go u a1 = some r) : Mt yX6_go cX6_go 3 (some .int) (rm 5) [.ref 0, .int a1] (h_F u) (ab_eq (some (.int r.1)) (h_F r.2)) := Mt.of (by decide +kernel) (fun _ _ _ => trivial) (Nat.le_of_ble_eq_true rfl) (v_F_go u a1 hd)
def d_F_startTrial (u : (Nat → Nat → Int32)) : Option ((Nat → Nat → Int32)) := (d_CC_becomeLike (sj (sh u 16) (sh u 11) 5)).bind fun zr1 => (d_C_forgetLoss (sh (pt (pt u 16 5 zr1) 11 5 (sh zr1 5)) 16)).bind fun zr3 => some (pt (pt (pt u 16 5 zr1) 11 5 (sh zr1 5)) 16 5 zr3)
set_option maxRecDepth 100000 in
set_option maxHeartbeats 4000000 in
theorem v_F_startTrial (u : (Nat → Nat → Int32)) {r : (Nat → Nat → Int32)} (hd : d_F_startTrial u = some r) : Vd RX6 "startTrial" cX6_startTrial 1 none (rm 2) (ab_eq none (h_F r)) 0 0 0 0 0 [(0, .ref 0)] [] (h_F u) := by
  unfold d_F_startTrial at hd
  refine v_aload_n dX6_startTrial_0 rfl ?_
  refine v_get (v := .ref 16) dX6_startTrial_1 fl_X6_23 rfl rfl ?_
  refine v_aload_n dX6_startTrial_4 rfl ?_
  refine v_get (v := .ref 11) dX6_startTrial_5 fl_X6_19 rfl rfl ?_
  obtain ⟨zr1, zh2, hd⟩ := g_bind hd
  refine v_cV (dy := 1) (st := []) (st2 := []) (h2 := (h_F (pt (pt u 16 5 zr1) 11 5 (sh zr1 5)))) [16, 17, 18, 19, 20, 11, 12, 13, 14, 15] dX6_startTrial_8 mv_X6_87 (m_CC_becomeLike (sj (sh u 16) (sh u 11) 5) zh2) rfl rfl rfl rfl rfl rfl rfl rfl (by decide) (by decide) rfl rfl rfl ?_
  refine v_aload_n dX6_startTrial_11 rfl ?_
  refine v_get (v := .ref 16) dX6_startTrial_12 fl_X6_23 rfl rfl ?_
  obtain ⟨zr3, zh4, hd⟩ := g_bind hd
  refine v_cV (dy := 1) (st := []) (st2 := []) (h2 := (h_F (pt (pt (pt u 16 5 zr1) 11 5 (sh zr1 5)) 16 5 zr3))) [16, 17, 18, 19, 20] dX6_startTrial_15 mv_X6_265 (m_C_forgetLoss (sh (pt (pt u 16 5 zr1) 11 5 (sh zr1 5)) 16) zh4) rfl rfl rfl rfl rfl rfl rfl rfl (by decide) (by decide) rfl rfl rfl ?_
  obtain rfl := Option.some.inj hd
  exact v_vretE dX6_startTrial_18 rfl rfl rfl
theorem m_F_startTrial (u : (Nat → Nat → Int32)) {r : (Nat → Nat → Int32)} (hd : d_F_startTrial u = some r) : Mt yX6_startTrial cX6_startTrial 1 none (rm 2) [.ref 0] (h_F u) (ab_eq none (h_F r)) := Mt.of (by decide +kernel) (fun _ _ _ => trivial) (Nat.le_of_ble_eq_true rfl) (v_F_startTrial u hd)

def d_F_runs_63 (k31 : (Nat → Nat → Int32) → Int32 → Int32 → Int32 → Int32 → Option (Int32 × (Nat → Nat → Int32))) (u : (Nat → Nat → Int32)) (x1 : Int32) (x2 : Int32) (x3 : Int32) (x4 : Int32) : Option (Int32 × (Nat → Nat → Int32)) := dl (x4 + (1 : Int32)) fun zy18 => k31 u x1 x2 x3 zy18
set_option maxRecDepth 100000 in
set_option maxHeartbeats 4000000 in
theorem v_F_runs_63  {r : Int32 × (Nat → Nat → Int32)} (k31 : (Nat → Nat → Int32) → Int32 → Int32 → Int32 → Int32 → Option (Int32 × (Nat → Nat → Int32))) (hk31 : ∀ (u : (Nat → Nat → Int32)) (x1 : Int32) (x2 : Int32) (x3 : Int32) (x4 : Int32), k31 u x1 x2 x3 x4 = some r → Vd RX6 "runs" cX6_runs 5 (some .int) (rm 4) (ab_eq (some (.int r.1)) (h_F r.2)) 0 0 0 0 31 [(0, .ref 0), (1, .int x1), (2, .int x2), (3, .int x3), (4, .int x4)] [] (h_F u)) (u : (Nat → Nat → Int32)) (x1 : Int32) (x2 : Int32) (x3 : Int32) (x4 : Int32) (hd : d_F_runs_63 k31 u x1 x2 x3 x4 = some r) : Vd RX6 "runs" cX6_runs 5 (some .int) (rm 4) (ab_eq (some (.int r.1)) (h_F r.2)) 0 0 0 0 63 [(0, .ref 0), (1, .int x1), (2, .int x2), (3, .int x3), (4, .int x4)] [] (h_F u) := by
  unfold d_F_runs_63 at hd
  obtain ⟨zy18, ze19⟩ : ∃ z : Int32, z = (x4 + (1 : Int32)) := ⟨_, rfl⟩
  have hd := dl_n hd zy18 ze19
  refine v_iinc (v := zy18) (L2 := [(4, .int zy18), (0, .ref 0), (1, .int x1), (2, .int x2), (3, .int x3)]) dX6_runs_63 rfl (by rw [ic_1]; exact ze19.symm) (Nat.le_of_ble_eq_true rfl) rfl ?_
  refine v_goto (tgt := 31) dX6_runs_66 (by decide) ?_
  refine v_loc [1, 2, 3, 4, 0] rfl ?_
  exact hk31 u x1 x2 x3 zy18 hd

def d_F_runs_31  : Nat → (Nat → Nat → Int32) → Int32 → Int32 → Int32 → Int32 → Option (Int32 × (Nat → Nat → Int32))
  | 0, _, _, _, _, _ => none
  | f + 1, u, x1, x2, x3, x4 => if x1 < x4 then (if x2 = (0 : Int32) then (some ((u 16 10), u)) else if x2 = (1 : Int32) then (some ((u 16 11), u)) else if x2 = (2 : Int32) then (some ((u 16 6), u)) else if x2 = (3 : Int32) then (some ((u 16 7), u)) else if x2 = (4 : Int32) then (some ((u 16 5), u)) else (some (x3, u))) else ((d_C_passNight (sh u 16)).bind fun zr15 => if x3 = (-4 : Int32) then (if (zr15 0 10) ≤ 0 then (d_F_runs_63 (d_F_runs_31 f) (pt u 16 5 zr15) x1 x2 x3 x4) else (d_F_runs_63 (d_F_runs_31 f) (pt u 16 5 zr15) x1 x2 x4 x4)) else (d_F_runs_63 (d_F_runs_31 f) (pt u 16 5 zr15) x1 x2 x3 x4))
set_option maxRecDepth 100000 in
set_option maxHeartbeats 4000000 in
theorem v_F_runs_31  {r : Int32 × (Nat → Nat → Int32)}  : ∀ (f : Nat) (u : (Nat → Nat → Int32)) (x1 : Int32) (x2 : Int32) (x3 : Int32) (x4 : Int32), d_F_runs_31  f u x1 x2 x3 x4 = some r → Vd RX6 "runs" cX6_runs 5 (some .int) (rm 4) (ab_eq (some (.int r.1)) (h_F r.2)) 0 0 0 0 31 [(0, .ref 0), (1, .int x1), (2, .int x2), (3, .int x3), (4, .int x4)] [] (h_F u) := by
  intro f
  induction f with
  | zero =>
    intro u x1 x2 x3 x4 hd
    rw [d_F_runs_31] at hd
    cases hd
  | succ f ih =>
    intro u x1 x2 x3 x4 hd
    rw [d_F_runs_31] at hd
    refine v_iload dX6_runs_31 rfl ?_
    refine v_iload_n dX6_runs_33 rfl ?_
    refine v_icmp_gt (tgt := 69) dX6_runs_34 (by decide) (fun zc9 => ?_) (fun zc9 => ?_)
    · have hd := g_t hd zc9
      refine v_iload_n dX6_runs_69 rfl ?_
      by_cases zc10 : x2 = (0 : Int32)
      · have hd := g_t hd zc10
        refine v_tIn (0 : Int32) (tgt := 104) dX6_runs_70 zc10 (by decide) (by decide) rfl (by decide) ?_
        refine v_aload_n dX6_runs_104 rfl ?_
        refine v_get (v := .ref 16) dX6_runs_105 fl_X6_23 rfl rfl ?_
        refine v_get (v := .int (u 16 10)) dX6_runs_108 fl_X6_119 rfl rfl ?_
        obtain rfl := Option.some.inj hd
        exact v_iretE dX6_runs_111 rfl rfl rfl rfl
      have hd := g_f hd zc10
      by_cases zc11 : x2 = (1 : Int32)
      · have hd := g_t hd zc11
        refine v_tIn (1 : Int32) (tgt := 112) dX6_runs_70 zc11 (by decide) (by decide) rfl (by decide) ?_
        refine v_aload_n dX6_runs_112 rfl ?_
        refine v_get (v := .ref 16) dX6_runs_113 fl_X6_23 rfl rfl ?_
        refine v_get (v := .int (u 16 11)) dX6_runs_116 fl_X6_122 rfl rfl ?_
        obtain rfl := Option.some.inj hd
        exact v_iretE dX6_runs_119 rfl rfl rfl rfl
      have hd := g_f hd zc11
      by_cases zc12 : x2 = (2 : Int32)
      · have hd := g_t hd zc12
        refine v_tIn (2 : Int32) (tgt := 120) dX6_runs_70 zc12 (by decide) (by decide) rfl (by decide) ?_
        refine v_aload_n dX6_runs_120 rfl ?_
        refine v_get (v := .ref 16) dX6_runs_121 fl_X6_23 rfl rfl ?_
        refine v_get (v := .int (u 16 6)) dX6_runs_124 fl_X6_107 rfl rfl ?_
        obtain rfl := Option.some.inj hd
        exact v_iretE dX6_runs_127 rfl rfl rfl rfl
      have hd := g_f hd zc12
      by_cases zc13 : x2 = (3 : Int32)
      · have hd := g_t hd zc13
        refine v_tIn (3 : Int32) (tgt := 128) dX6_runs_70 zc13 (by decide) (by decide) rfl (by decide) ?_
        refine v_aload_n dX6_runs_128 rfl ?_
        refine v_get (v := .ref 16) dX6_runs_129 fl_X6_23 rfl rfl ?_
        refine v_get (v := .int (u 16 7)) dX6_runs_132 fl_X6_110 rfl rfl ?_
        obtain rfl := Option.some.inj hd
        exact v_iretE dX6_runs_135 rfl rfl rfl rfl
      have hd := g_f hd zc13
      by_cases zc14 : x2 = (4 : Int32)
      · have hd := g_t hd zc14
        refine v_tIn (4 : Int32) (tgt := 136) dX6_runs_70 zc14 (by decide) (by decide) rfl (by decide) ?_
        refine v_aload_n dX6_runs_136 rfl ?_
        refine v_get (v := .ref 16) dX6_runs_137 fl_X6_23 rfl rfl ?_
        refine v_get (v := .int (u 16 5)) dX6_runs_140 fl_X6_104 rfl rfl ?_
        obtain rfl := Option.some.inj hd
        exact v_iretE dX6_runs_143 rfl rfl rfl rfl
      have hd := g_f hd zc14
      refine v_tOut (tgt := 144) dX6_runs_70 (by have q0 := lv_neT (a := 0) zc10 rfl; have q1 := lv_neT (a := 1) zc11 rfl; have q2 := lv_neT (a := 2) zc12 rfl; have q3 := lv_neT (a := 3) zc13 rfl; have q4 := lv_neT (a := 4) zc14 rfl; omega) (by decide) ?_
      refine v_iload_n dX6_runs_144 rfl ?_
      obtain rfl := Option.some.inj hd
      exact v_iretE dX6_runs_145 rfl rfl rfl rfl
    · have hd := g_f hd zc9
      refine v_aload_n dX6_runs_37 rfl ?_
      refine v_get (v := .ref 16) dX6_runs_38 fl_X6_23 rfl rfl ?_
      obtain ⟨zr15, zh16, hd⟩ := g_bind hd
      refine v_cV (dy := 3) (st := []) (st2 := []) (h2 := (h_F (pt u 16 5 zr15))) [16, 17, 18, 19, 20] dX6_runs_41 mv_X6_152 (m_C_passNight (sh u 16) zh16) rfl rfl rfl rfl rfl rfl rfl rfl (by decide) (by decide) rfl rfl rfl ?_
      refine v_iload_n dX6_runs_44 rfl ?_
      refine v_bipush dX6_runs_45 bp_m4 ?_
      refine v_icmp_ne (tgt := 63) dX6_runs_47 (by decide) (fun zc17 => ?_) (fun zc17 => ?_)
      · have hd := g_f hd zc17
        exact v_F_runs_63 (d_F_runs_31 f) (ih) (pt u 16 5 zr15) x1 x2 x3 x4 hd
      · have hd := g_t hd zc17
        refine v_aload_n dX6_runs_50 rfl ?_
        refine v_get (v := .ref 16) dX6_runs_51 fl_X6_23 rfl rfl ?_
        refine v_get (v := .int (zr15 0 10)) dX6_runs_54 fl_X6_119 rfl rfl ?_
        refine v_if_le (tgt := 63) dX6_runs_57 (by decide) (fun zc20 => ?_) (fun zc20 => ?_)
        · have hd := g_t hd zc20
          exact v_F_runs_63 (d_F_runs_31 f) (ih) (pt u 16 5 zr15) x1 x2 x3 x4 hd
        · have hd := g_f hd zc20
          refine v_iload dX6_runs_60 rfl ?_
          refine v_istore_n (i := 3) (L2 := [(3, .int x4), (0, .ref 0), (1, .int x1), (2, .int x2), (4, .int x4)]) dX6_runs_62 rfl (Nat.le_of_ble_eq_true rfl) rfl ?_
          refine v_loc [1, 2, 3, 0, 4] rfl ?_
          exact v_F_runs_63 (d_F_runs_31 f) (ih) (pt u 16 5 zr15) x1 x2 x4 x4 hd
def d_F_runs (u : (Nat → Nat → Int32)) (a1 : Int32) (a2 : Int32) : Option (Int32 × (Nat → Nat → Int32)) := (d_P_outside a1 (0 : Int32) (30 : Int32)).bind fun zr1 => if zr1 = 0 then ((d_P_outside a2 (0 : Int32) (5 : Int32)).bind fun zr4 => if zr4 = 0 then ((d_F_startTrial u).bind fun zr7 => d_F_runs_31 FU zr7 a1 a2 (-4 : Int32) (1 : Int32)) else (some ((-1 : Int32), u))) else (some ((-1 : Int32), u))
set_option maxRecDepth 100000 in
set_option maxHeartbeats 4000000 in
theorem v_F_runs (u : (Nat → Nat → Int32)) (a1 : Int32) (a2 : Int32) {r : Int32 × (Nat → Nat → Int32)} (hd : d_F_runs u a1 a2 = some r) : Vd RX6 "runs" cX6_runs 5 (some .int) (rm 4) (ab_eq (some (.int r.1)) (h_F r.2)) 0 0 0 0 0 [(0, .ref 0), (1, .int a1), (2, .int a2)] [] (h_F u) := by
  unfold d_F_runs at hd
  refine v_iload_n dX6_runs_0 rfl ?_
  refine v_iconst dX6_runs_1 ic_0 ?_
  refine v_bipush dX6_runs_2 bp_30 ?_
  obtain ⟨zr1, zh2, hd⟩ := g_bind hd
  refine v_cS (dy := 0) (st := []) (st2 := [.int zr1]) (h2 := (h_F u)) [] dX6_runs_4 mz_X6_54 (m_P_outside a1 (0 : Int32) (30 : Int32) zh2) rfl rfl rfl rfl rfl rfl (by decide) (by decide) rfl rfl rfl ?_
  refine v_if_ne (tgt := 19) dX6_runs_7 (by decide) (fun zc3 => ?_) (fun zc3 => ?_)
  · have hd := g_f hd zc3
    refine v_iconst dX6_runs_19 ic_m1 ?_
    obtain rfl := Option.some.inj hd
    exact v_iretE dX6_runs_20 rfl rfl rfl rfl
  · have hd := g_t hd zc3
    refine v_iload_n dX6_runs_10 rfl ?_
    refine v_iconst dX6_runs_11 ic_0 ?_
    refine v_iconst dX6_runs_12 ic_5 ?_
    obtain ⟨zr4, zh5, hd⟩ := g_bind hd
    refine v_cS (dy := 0) (st := []) (st2 := [.int zr4]) (h2 := (h_F u)) [] dX6_runs_13 mz_X6_54 (m_P_outside a2 (0 : Int32) (5 : Int32) zh5) rfl rfl rfl rfl rfl rfl (by decide) (by decide) rfl rfl rfl ?_
    refine v_if_eq (tgt := 21) dX6_runs_16 (by decide) (fun zc6 => ?_) (fun zc6 => ?_)
    · have hd := g_t hd zc6
      refine v_aload_n dX6_runs_21 rfl ?_
      obtain ⟨zr7, zh8, hd⟩ := g_bind hd
      refine v_cI (dy := 2) (st := []) (st2 := []) dX6_runs_22 mv_X6_149 (m_F_startTrial u zh8) rfl rfl rfl rfl rfl (by decide) (by decide) rfl rfl ?_
      refine v_bipush dX6_runs_25 bp_m4 ?_
      refine v_istore_n (i := 3) (L2 := [(3, .int (-4 : Int32)), (0, .ref 0), (1, .int a1), (2, .int a2)]) dX6_runs_27 rfl (Nat.le_of_ble_eq_true rfl) rfl ?_
      refine v_iconst dX6_runs_28 ic_1 ?_
      refine v_istore (i := 4) (L2 := [(4, .int (1 : Int32)), (3, .int (-4 : Int32)), (0, .ref 0), (1, .int a1), (2, .int a2)]) dX6_runs_29 (Nat.le_of_ble_eq_true rfl) rfl ?_
      refine v_loc [2, 3, 4, 1, 0] rfl ?_
      exact v_F_runs_31 FU zr7 a1 a2 (-4 : Int32) (1 : Int32) hd
    · have hd := g_f hd zc6
      refine v_iconst dX6_runs_19 ic_m1 ?_
      obtain rfl := Option.some.inj hd
      exact v_iretE dX6_runs_20 rfl rfl rfl rfl
theorem m_F_runs (u : (Nat → Nat → Int32)) (a1 : Int32) (a2 : Int32) {r : Int32 × (Nat → Nat → Int32)} (hd : d_F_runs u a1 a2 = some r) : Mt yX6_runs cX6_runs 5 (some .int) (rm 4) [.ref 0, .int a1, .int a2] (h_F u) (ab_eq (some (.int r.1)) (h_F r.2)) := Mt.of (by decide +kernel) (fun _ _ _ => trivial) (Nat.le_of_ble_eq_true rfl) (v_F_runs u a1 a2 hd)
def d_F_ahead (u : (Nat → Nat → Int32)) (a1 : Int32) (a2 : Int32) : Option (Int32 × (Nat → Nat → Int32)) := (d_C_has (sh u 11) a1).bind fun zr1 => if zr1 = 0 then (some ((-1 : Int32), u)) else ((d_P_outside a2 (0 : Int32) (30 : Int32)).bind fun zr4 => if zr4 = 0 then ((d_F_startTrial u).bind fun zr7 => (d_C_passNights (sh zr7 16) a2).bind fun zr9 => if gi a1 5 = true then some (((zr9 2) a1.toNatClampNeg), (pt zr7 16 5 zr9)) else none) else (some ((-1 : Int32), u)))
set_option maxRecDepth 100000 in
set_option maxHeartbeats 4000000 in
theorem v_F_ahead (u : (Nat → Nat → Int32)) (a1 : Int32) (a2 : Int32) {r : Int32 × (Nat → Nat → Int32)} (hd : d_F_ahead u a1 a2 = some r) : Vd RX6 "ahead" cX6_ahead 3 (some .int) (rm 5) (ab_eq (some (.int r.1)) (h_F r.2)) 0 0 0 0 0 [(0, .ref 0), (1, .int a1), (2, .int a2)] [] (h_F u) := by
  unfold d_F_ahead at hd
  refine v_aload_n dX6_ahead_0 rfl ?_
  refine v_get (v := .ref 11) dX6_ahead_1 fl_X6_19 rfl rfl ?_
  refine v_iload_n dX6_ahead_4 rfl ?_
  obtain ⟨zr1, zh2, hd⟩ := g_bind hd
  refine v_cV (dy := 0) (st := []) (st2 := [.int zr1]) (h2 := (h_F u)) [11, 12, 13, 14, 15] dX6_ahead_5 mv_X6_129 (m_C_has (sh u 11) a1 zh2) rfl rfl rfl rfl rfl rfl rfl rfl (by decide) (by decide) rfl rfl rfl ?_
  refine v_if_eq (tgt := 21) dX6_ahead_8 (by decide) (fun zc3 => ?_) (fun zc3 => ?_)
  · have hd := g_t hd zc3
    refine v_iconst dX6_ahead_21 ic_m1 ?_
    obtain rfl := Option.some.inj hd
    exact v_iretE dX6_ahead_22 rfl rfl rfl rfl
  · have hd := g_f hd zc3
    refine v_iload_n dX6_ahead_11 rfl ?_
    refine v_iconst dX6_ahead_12 ic_0 ?_
    refine v_bipush dX6_ahead_13 bp_30 ?_
    obtain ⟨zr4, zh5, hd⟩ := g_bind hd
    refine v_cS (dy := 0) (st := []) (st2 := [.int zr4]) (h2 := (h_F u)) [] dX6_ahead_15 mz_X6_54 (m_P_outside a2 (0 : Int32) (30 : Int32) zh5) rfl rfl rfl rfl rfl rfl (by decide) (by decide) rfl rfl rfl ?_
    refine v_if_eq (tgt := 23) dX6_ahead_18 (by decide) (fun zc6 => ?_) (fun zc6 => ?_)
    · have hd := g_t hd zc6
      refine v_aload_n dX6_ahead_23 rfl ?_
      obtain ⟨zr7, zh8, hd⟩ := g_bind hd
      refine v_cI (dy := 2) (st := []) (st2 := []) dX6_ahead_24 mv_X6_149 (m_F_startTrial u zh8) rfl rfl rfl rfl rfl (by decide) (by decide) rfl rfl ?_
      refine v_aload_n dX6_ahead_27 rfl ?_
      refine v_get (v := .ref 16) dX6_ahead_28 fl_X6_23 rfl rfl ?_
      refine v_iload_n dX6_ahead_31 rfl ?_
      obtain ⟨zr9, zh10, hd⟩ := g_bind hd
      refine v_cV (dy := 4) (st := []) (st2 := []) (h2 := (h_F (pt zr7 16 5 zr9))) [16, 17, 18, 19, 20] dX6_ahead_32 mv_X6_145 (m_C_passNights (sh zr7 16) a2 zh10) rfl rfl rfl rfl rfl rfl rfl rfl (by decide) (by decide) rfl rfl rfl ?_
      refine v_aload_n dX6_ahead_35 rfl ?_
      refine v_get (v := .ref 16) dX6_ahead_36 fl_X6_23 rfl rfl ?_
      refine v_get (v := .ref 18) dX6_ahead_39 fl_X6_135 rfl rfl ?_
      refine v_iload_n dX6_ahead_42 rfl ?_
      obtain ⟨zg11, hd⟩ := g_b hd
      refine v_iald (f := (zr9 2)) dX6_ahead_43 rfl (gi_in zg11) ?_
      obtain rfl := Option.some.inj hd
      exact v_iretE dX6_ahead_44 rfl rfl rfl rfl
    · have hd := g_f hd zc6
      refine v_iconst dX6_ahead_21 ic_m1 ?_
      obtain rfl := Option.some.inj hd
      exact v_iretE dX6_ahead_22 rfl rfl rfl rfl
theorem m_F_ahead (u : (Nat → Nat → Int32)) (a1 : Int32) (a2 : Int32) {r : Int32 × (Nat → Nat → Int32)} (hd : d_F_ahead u a1 a2 = some r) : Mt yX6_ahead cX6_ahead 3 (some .int) (rm 5) [.ref 0, .int a1, .int a2] (h_F u) (ab_eq (some (.int r.1)) (h_F r.2)) := Mt.of (by decide +kernel) (fun _ _ _ => trivial) (Nat.le_of_ble_eq_true rfl) (v_F_ahead u a1 a2 hd)

def d_F_bare_19  : Nat → (Nat → Nat → Int32) → Int32 → Int32 → Option (Int32 × (Nat → Nat → Int32))
  | 0, _, _, _ => none
  | f + 1, u, x1, x2 => if (60 : Int32) < x2 then (some ((-4 : Int32), u)) else (if gi x1 5 = true then if ((u 18) x1.toNatClampNeg) = 0 then (some (x2, u)) else ((d_C_passNight (sh u 16)).bind fun zr9 => dl (x2 + (1 : Int32)) fun zy11 => d_F_bare_19 f (pt u 16 5 zr9) x1 zy11) else none)
set_option maxRecDepth 100000 in
set_option maxHeartbeats 4000000 in
theorem v_F_bare_19  {r : Int32 × (Nat → Nat → Int32)}  : ∀ (f : Nat) (u : (Nat → Nat → Int32)) (x1 : Int32) (x2 : Int32), d_F_bare_19  f u x1 x2 = some r → Vd RX6 "bare" cX6_bare 3 (some .int) (rm 4) (ab_eq (some (.int r.1)) (h_F r.2)) 0 0 0 0 19 [(0, .ref 0), (1, .int x1), (2, .int x2)] [] (h_F u) := by
  intro f
  induction f with
  | zero =>
    intro u x1 x2 hd
    rw [d_F_bare_19] at hd
    cases hd
  | succ f ih =>
    intro u x1 x2 hd
    rw [d_F_bare_19] at hd
    refine v_iload_n dX6_bare_19 rfl ?_
    refine v_bipush dX6_bare_20 bp_60 ?_
    refine v_icmp_gt (tgt := 52) dX6_bare_22 (by decide) (fun zc6 => ?_) (fun zc6 => ?_)
    · have hd := g_t hd zc6
      refine v_bipush dX6_bare_52 bp_m4 ?_
      obtain rfl := Option.some.inj hd
      exact v_iretE dX6_bare_54 rfl rfl rfl rfl
    · have hd := g_f hd zc6
      refine v_aload_n dX6_bare_25 rfl ?_
      refine v_get (v := .ref 16) dX6_bare_26 fl_X6_23 rfl rfl ?_
      refine v_get (v := .ref 18) dX6_bare_29 fl_X6_135 rfl rfl ?_
      refine v_iload_n dX6_bare_32 rfl ?_
      obtain ⟨zg7, hd⟩ := g_b hd
      refine v_iald (f := (u 18)) dX6_bare_33 rfl (gi_in zg7) ?_
      refine v_if_ne (tgt := 39) dX6_bare_34 (by decide) (fun zc8 => ?_) (fun zc8 => ?_)
      · have hd := g_f hd zc8
        refine v_aload_n dX6_bare_39 rfl ?_
        refine v_get (v := .ref 16) dX6_bare_40 fl_X6_23 rfl rfl ?_
        obtain ⟨zr9, zh10, hd⟩ := g_bind hd
        refine v_cV (dy := 3) (st := []) (st2 := []) (h2 := (h_F (pt u 16 5 zr9))) [16, 17, 18, 19, 20] dX6_bare_43 mv_X6_152 (m_C_passNight (sh u 16) zh10) rfl rfl rfl rfl rfl rfl rfl rfl (by decide) (by decide) rfl rfl rfl ?_
        obtain ⟨zy11, ze12⟩ : ∃ z : Int32, z = (x2 + (1 : Int32)) := ⟨_, rfl⟩
        have hd := dl_n hd zy11 ze12
        refine v_iinc (v := zy11) (L2 := [(2, .int zy11), (0, .ref 0), (1, .int x1)]) dX6_bare_46 rfl (by rw [ic_1]; exact ze12.symm) (Nat.le_of_ble_eq_true rfl) rfl ?_
        refine v_goto (tgt := 19) dX6_bare_49 (by decide) ?_
        refine v_loc [1, 2, 0] rfl ?_
        exact ih (pt u 16 5 zr9) x1 zy11 hd
      · have hd := g_t hd zc8
        refine v_iload_n dX6_bare_37 rfl ?_
        obtain rfl := Option.some.inj hd
        exact v_iretE dX6_bare_38 rfl rfl rfl rfl
def d_F_bare (u : (Nat → Nat → Int32)) (a1 : Int32) : Option (Int32 × (Nat → Nat → Int32)) := (d_C_has (sh u 11) a1).bind fun zr1 => if zr1 = 0 then (some ((-1 : Int32), u)) else ((d_F_startTrial u).bind fun zr4 => d_F_bare_19 FU zr4 a1 (0 : Int32))
set_option maxRecDepth 100000 in
set_option maxHeartbeats 4000000 in
theorem v_F_bare (u : (Nat → Nat → Int32)) (a1 : Int32) {r : Int32 × (Nat → Nat → Int32)} (hd : d_F_bare u a1 = some r) : Vd RX6 "bare" cX6_bare 3 (some .int) (rm 4) (ab_eq (some (.int r.1)) (h_F r.2)) 0 0 0 0 0 [(0, .ref 0), (1, .int a1)] [] (h_F u) := by
  unfold d_F_bare at hd
  refine v_aload_n dX6_bare_0 rfl ?_
  refine v_get (v := .ref 11) dX6_bare_1 fl_X6_19 rfl rfl ?_
  refine v_iload_n dX6_bare_4 rfl ?_
  obtain ⟨zr1, zh2, hd⟩ := g_bind hd
  refine v_cV (dy := 0) (st := []) (st2 := [.int zr1]) (h2 := (h_F u)) [11, 12, 13, 14, 15] dX6_bare_5 mv_X6_129 (m_C_has (sh u 11) a1 zh2) rfl rfl rfl rfl rfl rfl rfl rfl (by decide) (by decide) rfl rfl rfl ?_
  refine v_if_ne (tgt := 13) dX6_bare_8 (by decide) (fun zc3 => ?_) (fun zc3 => ?_)
  · have hd := g_f hd zc3
    refine v_aload_n dX6_bare_13 rfl ?_
    obtain ⟨zr4, zh5, hd⟩ := g_bind hd
    refine v_cI (dy := 2) (st := []) (st2 := []) dX6_bare_14 mv_X6_149 (m_F_startTrial u zh5) rfl rfl rfl rfl rfl (by decide) (by decide) rfl rfl ?_
    refine v_iconst dX6_bare_17 ic_0 ?_
    refine v_istore_n (i := 2) (L2 := [(2, .int (0 : Int32)), (0, .ref 0), (1, .int a1)]) dX6_bare_18 rfl (Nat.le_of_ble_eq_true rfl) rfl ?_
    refine v_loc [1, 2, 0] rfl ?_
    exact v_F_bare_19 FU zr4 a1 (0 : Int32) hd
  · have hd := g_t hd zc3
    refine v_iconst dX6_bare_11 ic_m1 ?_
    obtain rfl := Option.some.inj hd
    exact v_iretE dX6_bare_12 rfl rfl rfl rfl
theorem m_F_bare (u : (Nat → Nat → Int32)) (a1 : Int32) {r : Int32 × (Nat → Nat → Int32)} (hd : d_F_bare u a1 = some r) : Mt yX6_bare cX6_bare 3 (some .int) (rm 4) [.ref 0, .int a1] (h_F u) (ab_eq (some (.int r.1)) (h_F r.2)) := Mt.of (by decide +kernel) (fun _ _ _ => trivial) (Nat.le_of_ble_eq_true rfl) (v_F_bare u a1 hd)
def d_F_lossByKinds (u : (Nat → Nat → Int32)) (a1 : Int32) (a2 : Int32) : Option (Int32 × (Nat → Nat → Int32)) := (d_F_startTrial u).bind fun zr1 => (d_C_putKinds (sh zr1 16) a1).bind fun zr3 => (d_C_passNights (sh (pt zr1 16 5 zr3) 16) a2).bind fun zr5 => (d_C_loss (sh (pt (pt zr1 16 5 zr3) 16 5 zr5) 16)).bind fun zr7 => some (zr7, (pt (pt zr1 16 5 zr3) 16 5 zr5))
set_option maxRecDepth 100000 in
set_option maxHeartbeats 4000000 in
theorem v_F_lossByKinds (u : (Nat → Nat → Int32)) (a1 : Int32) (a2 : Int32) {r : Int32 × (Nat → Nat → Int32)} (hd : d_F_lossByKinds u a1 a2 = some r) : Vd RX6 "lossByKinds" cX6_lossByKinds 3 (some .int) (rm 5) (ab_eq (some (.int r.1)) (h_F r.2)) 0 0 0 0 0 [(0, .ref 0), (1, .int a1), (2, .int a2)] [] (h_F u) := by
  unfold d_F_lossByKinds at hd
  refine v_aload_n dX6_lossByKinds_0 rfl ?_
  obtain ⟨zr1, zh2, hd⟩ := g_bind hd
  refine v_cI (dy := 2) (st := []) (st2 := []) dX6_lossByKinds_1 mv_X6_149 (m_F_startTrial u zh2) rfl rfl rfl rfl rfl (by decide) (by decide) rfl rfl ?_
  refine v_aload_n dX6_lossByKinds_4 rfl ?_
  refine v_get (v := .ref 16) dX6_lossByKinds_5 fl_X6_23 rfl rfl ?_
  refine v_iload_n dX6_lossByKinds_8 rfl ?_
  obtain ⟨zr3, zh4, hd⟩ := g_bind hd
  refine v_cV (dy := 2) (st := []) (st2 := []) (h2 := (h_F (pt zr1 16 5 zr3))) [16, 17, 18, 19, 20] dX6_lossByKinds_9 mv_X6_268 (m_C_putKinds (sh zr1 16) a1 zh4) rfl rfl rfl rfl rfl rfl rfl rfl (by decide) (by decide) rfl rfl rfl ?_
  refine v_aload_n dX6_lossByKinds_12 rfl ?_
  refine v_get (v := .ref 16) dX6_lossByKinds_13 fl_X6_23 rfl rfl ?_
  refine v_iload_n dX6_lossByKinds_16 rfl ?_
  obtain ⟨zr5, zh6, hd⟩ := g_bind hd
  refine v_cV (dy := 4) (st := []) (st2 := []) (h2 := (h_F (pt (pt zr1 16 5 zr3) 16 5 zr5))) [16, 17, 18, 19, 20] dX6_lossByKinds_17 mv_X6_145 (m_C_passNights (sh (pt zr1 16 5 zr3) 16) a2 zh6) rfl rfl rfl rfl rfl rfl rfl rfl (by decide) (by decide) rfl rfl rfl ?_
  refine v_aload_n dX6_lossByKinds_20 rfl ?_
  refine v_get (v := .ref 16) dX6_lossByKinds_21 fl_X6_23 rfl rfl ?_
  obtain ⟨zr7, zh8, hd⟩ := g_bind hd
  refine v_cV (dy := 0) (st := []) (st2 := [.int zr7]) (h2 := (h_F (pt (pt zr1 16 5 zr3) 16 5 zr5))) [16, 17, 18, 19, 20] dX6_lossByKinds_24 mv_X6_172 (m_C_loss (sh (pt (pt zr1 16 5 zr3) 16 5 zr5) 16) zh8) rfl rfl rfl rfl rfl rfl rfl rfl (by decide) (by decide) rfl rfl rfl ?_
  obtain rfl := Option.some.inj hd
  exact v_iretE dX6_lossByKinds_27 rfl rfl rfl rfl
theorem m_F_lossByKinds (u : (Nat → Nat → Int32)) (a1 : Int32) (a2 : Int32) {r : Int32 × (Nat → Nat → Int32)} (hd : d_F_lossByKinds u a1 a2 = some r) : Mt yX6_lossByKinds cX6_lossByKinds 3 (some .int) (rm 5) [.ref 0, .int a1, .int a2] (h_F u) (ab_eq (some (.int r.1)) (h_F r.2)) := Mt.of (by decide +kernel) (fun _ _ _ => trivial) (Nat.le_of_ble_eq_true rfl) (v_F_lossByKinds u a1 a2 hd)

def d_F_best_97  (u : (Nat → Nat → Int32)) (x2 : Int32) (x3 : Int32) (x5 : Int32) (x6 : Int32) : Option (Int32 × (Nat → Nat → Int32)) := if x2 = 0 then (some (x6, u)) else ((d_C_kindBy (sh u 11) x5 x3).bind fun zr13 => some (zr13, u))
set_option maxRecDepth 100000 in
set_option maxHeartbeats 4000000 in
theorem v_F_best_97  {r : Int32 × (Nat → Nat → Int32)}  (u : (Nat → Nat → Int32)) (x2 : Int32) (x3 : Int32) (x5 : Int32) (x6 : Int32) (hd : d_F_best_97  u x2 x3 x5 x6 = some r) : Vd RX6 "best" cX6_best 9 (some .int) (rm 6) (ab_eq (some (.int r.1)) (h_F r.2)) 0 0 0 0 97 [(0, .ref 0), (2, .int x2), (3, .int x3), (5, .int x5), (6, .int x6)] [] (h_F u) := by
  unfold d_F_best_97 at hd
  refine v_iload_n dX6_best_97 rfl ?_
  refine v_if_ne (tgt := 106) dX6_best_98 (by decide) (fun zc12 => ?_) (fun zc12 => ?_)
  · have hd := g_f hd zc12
    refine v_aload_n dX6_best_106 rfl ?_
    refine v_get (v := .ref 11) dX6_best_107 fl_X6_19 rfl rfl ?_
    refine v_iload dX6_best_110 rfl ?_
    refine v_iload_n dX6_best_112 rfl ?_
    obtain ⟨zr13, zh14, hd⟩ := g_bind hd
    refine v_cV (dy := 1) (st := []) (st2 := [.int zr13]) (h2 := (h_F u)) [11, 12, 13, 14, 15] dX6_best_113 mv_X6_161 (m_C_kindBy (sh u 11) x5 x3 zh14) rfl rfl rfl rfl rfl rfl rfl rfl (by decide) (by decide) rfl rfl rfl ?_
    obtain rfl := Option.some.inj hd
    exact v_iretE dX6_best_116 rfl rfl rfl rfl
  · have hd := g_t hd zc12
    refine v_iload dX6_best_101 rfl ?_
    refine v_goto (tgt := 116) dX6_best_103 (by decide) ?_
    obtain rfl := Option.some.inj hd
    exact v_iretE dX6_best_116 rfl rfl rfl rfl

def d_F_best_91 (k55 : (Nat → Nat → Int32) → Int32 → Int32 → Int32 → Int32 → Int32 → Int32 → Int32 → Option (Int32 × (Nat → Nat → Int32))) (u : (Nat → Nat → Int32)) (x1 : Int32) (x2 : Int32) (x3 : Int32) (x4 : Int32) (x5 : Int32) (x6 : Int32) (x7 : Int32) : Option (Int32 × (Nat → Nat → Int32)) := dl (x7 + (1 : Int32)) fun zy19 => k55 u x1 x2 x3 x4 x5 x6 zy19
set_option maxRecDepth 100000 in
set_option maxHeartbeats 4000000 in
theorem v_F_best_91  {r : Int32 × (Nat → Nat → Int32)} (k55 : (Nat → Nat → Int32) → Int32 → Int32 → Int32 → Int32 → Int32 → Int32 → Int32 → Option (Int32 × (Nat → Nat → Int32))) (hk55 : ∀ (u : (Nat → Nat → Int32)) (x1 : Int32) (x2 : Int32) (x3 : Int32) (x4 : Int32) (x5 : Int32) (x6 : Int32) (x7 : Int32), k55 u x1 x2 x3 x4 x5 x6 x7 = some r → Vd RX6 "best" cX6_best 9 (some .int) (rm 6) (ab_eq (some (.int r.1)) (h_F r.2)) 0 0 0 0 55 [(0, .ref 0), (1, .int x1), (2, .int x2), (3, .int x3), (4, .int x4), (5, .int x5), (6, .int x6), (7, .int x7)] [] (h_F u)) (u : (Nat → Nat → Int32)) (x1 : Int32) (x2 : Int32) (x3 : Int32) (x4 : Int32) (x5 : Int32) (x6 : Int32) (x7 : Int32) (hd : d_F_best_91 k55 u x1 x2 x3 x4 x5 x6 x7 = some r) : Vd RX6 "best" cX6_best 9 (some .int) (rm 6) (ab_eq (some (.int r.1)) (h_F r.2)) 0 0 0 0 91 [(0, .ref 0), (1, .int x1), (2, .int x2), (3, .int x3), (4, .int x4), (5, .int x5), (6, .int x6), (7, .int x7)] [] (h_F u) := by
  unfold d_F_best_91 at hd
  obtain ⟨zy19, ze20⟩ : ∃ z : Int32, z = (x7 + (1 : Int32)) := ⟨_, rfl⟩
  have hd := dl_n hd zy19 ze20
  refine v_iinc (v := zy19) (L2 := [(7, .int zy19), (0, .ref 0), (1, .int x1), (2, .int x2), (3, .int x3), (4, .int x4), (5, .int x5), (6, .int x6)]) dX6_best_91 rfl (by rw [ic_1]; exact ze20.symm) (Nat.le_of_ble_eq_true rfl) rfl ?_
  refine v_goto (tgt := 55) dX6_best_94 (by decide) ?_
  refine v_loc [1, 2, 3, 4, 5, 6, 7, 0] rfl ?_
  exact hk55 u x1 x2 x3 x4 x5 x6 zy19 hd

def d_F_best_55  : Nat → (Nat → Nat → Int32) → Int32 → Int32 → Int32 → Int32 → Int32 → Int32 → Int32 → Option (Int32 × (Nat → Nat → Int32))
  | 0, _, _, _, _, _, _, _, _ => none
  | f + 1, u, x1, x2, x3, x4, x5, x6, x7 => if x4 ≤ x7 then (d_F_best_97 u x2 x3 x5 x6) else (if x6 ≤ 0 then (d_F_best_97 u x2 x3 x5 x6) else ((d_F_lossByKinds u x7 x1).bind fun zr16 => if x6 ≤ zr16.1 then (d_F_best_91 (d_F_best_55 f) zr16.2 x1 x2 x3 x4 x5 x6 x7) else (d_F_best_91 (d_F_best_55 f) zr16.2 x1 x2 x3 x4 x7 zr16.1 x7)))
set_option maxRecDepth 100000 in
set_option maxHeartbeats 4000000 in
theorem v_F_best_55  {r : Int32 × (Nat → Nat → Int32)}  : ∀ (f : Nat) (u : (Nat → Nat → Int32)) (x1 : Int32) (x2 : Int32) (x3 : Int32) (x4 : Int32) (x5 : Int32) (x6 : Int32) (x7 : Int32), d_F_best_55  f u x1 x2 x3 x4 x5 x6 x7 = some r → Vd RX6 "best" cX6_best 9 (some .int) (rm 6) (ab_eq (some (.int r.1)) (h_F r.2)) 0 0 0 0 55 [(0, .ref 0), (1, .int x1), (2, .int x2), (3, .int x3), (4, .int x4), (5, .int x5), (6, .int x6), (7, .int x7)] [] (h_F u) := by
  intro f
  induction f with
  | zero =>
    intro u x1 x2 x3 x4 x5 x6 x7 hd
    rw [d_F_best_55] at hd
    cases hd
  | succ f ih =>
    intro u x1 x2 x3 x4 x5 x6 x7 hd
    rw [d_F_best_55] at hd
    refine v_iload dX6_best_55 rfl ?_
    refine v_iload dX6_best_57 rfl ?_
    refine v_icmp_ge (tgt := 97) dX6_best_59 (by decide) (fun zc11 => ?_) (fun zc11 => ?_)
    · have hd := g_t hd zc11
      refine v_loc [0, 2, 3, 5, 6] rfl ?_
      exact v_F_best_97 u x2 x3 x5 x6 hd
    · have hd := g_f hd zc11
      refine v_iload dX6_best_62 rfl ?_
      refine v_if_le (tgt := 97) dX6_best_64 (by decide) (fun zc15 => ?_) (fun zc15 => ?_)
      · have hd := g_t hd zc15
        refine v_loc [0, 2, 3, 5, 6] rfl ?_
        exact v_F_best_97 u x2 x3 x5 x6 hd
      · have hd := g_f hd zc15
        refine v_aload_n dX6_best_67 rfl ?_
        refine v_iload dX6_best_68 rfl ?_
        refine v_iload_n dX6_best_70 rfl ?_
        obtain ⟨zr16, zh17, hd⟩ := g_bind hd
        refine v_cI (dy := 5) (st := []) (st2 := [.int zr16.1]) dX6_best_71 mv_X6_158 (m_F_lossByKinds u x7 x1 zh17) rfl rfl rfl rfl rfl (by decide) (by decide) rfl rfl ?_
        refine v_istore (i := 8) (L2 := [(8, .int zr16.1), (0, .ref 0), (1, .int x1), (2, .int x2), (3, .int x3), (4, .int x4), (5, .int x5), (6, .int x6), (7, .int x7)]) dX6_best_74 (Nat.le_of_ble_eq_true rfl) rfl ?_
        refine v_iload dX6_best_76 rfl ?_
        refine v_iload dX6_best_78 rfl ?_
        refine v_icmp_ge (tgt := 91) dX6_best_80 (by decide) (fun zc18 => ?_) (fun zc18 => ?_)
        · have hd := g_t hd zc18
          refine v_loc [1, 2, 3, 4, 5, 6, 7, 8] rfl ?_
          exact v_F_best_91 (d_F_best_55 f) (ih) zr16.2 x1 x2 x3 x4 x5 x6 x7 hd
        · have hd := g_f hd zc18
          refine v_iload dX6_best_83 rfl ?_
          refine v_istore (i := 6) (L2 := [(6, .int zr16.1), (8, .int zr16.1), (0, .ref 0), (1, .int x1), (2, .int x2), (3, .int x3), (4, .int x4), (5, .int x5), (7, .int x7)]) dX6_best_85 (Nat.le_of_ble_eq_true rfl) rfl ?_
          refine v_iload dX6_best_87 rfl ?_
          refine v_istore (i := 5) (L2 := [(5, .int x7), (6, .int zr16.1), (8, .int zr16.1), (0, .ref 0), (1, .int x1), (2, .int x2), (3, .int x3), (4, .int x4), (7, .int x7)]) dX6_best_89 (Nat.le_of_ble_eq_true rfl) rfl ?_
          refine v_loc [3, 4, 5, 6, 7, 0, 1, 8] rfl ?_
          exact v_F_best_91 (d_F_best_55 f) (ih) zr16.2 x1 x2 x3 x4 x7 zr16.1 x7 hd

def d_F_best_32  (u : (Nat → Nat → Int32)) (x1 : Int32) (x2 : Int32) (x3 : Int32) : Option (Int32 × (Nat → Nat → Int32)) := (d_C_allKinds (sh u 11)).bind fun zr7 => (d_F_lossByKinds u (0 : Int32) x1).bind fun zr9 => d_F_best_55 FU zr9.2 x1 x2 x3 zr7 (0 : Int32) zr9.1 (1 : Int32)
set_option maxRecDepth 100000 in
set_option maxHeartbeats 4000000 in
theorem v_F_best_32  {r : Int32 × (Nat → Nat → Int32)}  (u : (Nat → Nat → Int32)) (x1 : Int32) (x2 : Int32) (x3 : Int32) (hd : d_F_best_32  u x1 x2 x3 = some r) : Vd RX6 "best" cX6_best 9 (some .int) (rm 6) (ab_eq (some (.int r.1)) (h_F r.2)) 0 0 0 0 32 [(0, .ref 0), (1, .int x1), (2, .int x2), (3, .int x3)] [] (h_F u) := by
  unfold d_F_best_32 at hd
  refine v_aload_n dX6_best_32 rfl ?_
  refine v_get (v := .ref 11) dX6_best_33 fl_X6_19 rfl rfl ?_
  obtain ⟨zr7, zh8, hd⟩ := g_bind hd
  refine v_cV (dy := 0) (st := []) (st2 := [.int zr7]) (h2 := (h_F u)) [11, 12, 13, 14, 15] dX6_best_36 mv_X6_155 (m_C_allKinds (sh u 11) zh8) rfl rfl rfl rfl rfl rfl rfl rfl (by decide) (by decide) rfl rfl rfl ?_
  refine v_istore (i := 4) (L2 := [(4, .int zr7), (0, .ref 0), (1, .int x1), (2, .int x2), (3, .int x3)]) dX6_best_39 (Nat.le_of_ble_eq_true rfl) rfl ?_
  refine v_iconst dX6_best_41 ic_0 ?_
  refine v_istore (i := 5) (L2 := [(5, .int (0 : Int32)), (4, .int zr7), (0, .ref 0), (1, .int x1), (2, .int x2), (3, .int x3)]) dX6_best_42 (Nat.le_of_ble_eq_true rfl) rfl ?_
  refine v_aload_n dX6_best_44 rfl ?_
  refine v_iconst dX6_best_45 ic_0 ?_
  refine v_iload_n dX6_best_46 rfl ?_
  obtain ⟨zr9, zh10, hd⟩ := g_bind hd
  refine v_cI (dy := 5) (st := []) (st2 := [.int zr9.1]) dX6_best_47 mv_X6_158 (m_F_lossByKinds u (0 : Int32) x1 zh10) rfl rfl rfl rfl rfl (by decide) (by decide) rfl rfl ?_
  refine v_istore (i := 6) (L2 := [(6, .int zr9.1), (5, .int (0 : Int32)), (4, .int zr7), (0, .ref 0), (1, .int x1), (2, .int x2), (3, .int x3)]) dX6_best_50 (Nat.le_of_ble_eq_true rfl) rfl ?_
  refine v_iconst dX6_best_52 ic_1 ?_
  refine v_istore (i := 7) (L2 := [(7, .int (1 : Int32)), (6, .int zr9.1), (5, .int (0 : Int32)), (4, .int zr7), (0, .ref 0), (1, .int x1), (2, .int x2), (3, .int x3)]) dX6_best_53 (Nat.le_of_ble_eq_true rfl) rfl ?_
  refine v_loc [4, 5, 6, 7, 3, 2, 1, 0] rfl ?_
  exact v_F_best_55 FU zr9.2 x1 x2 x3 zr7 (0 : Int32) zr9.1 (1 : Int32) hd
def d_F_best (u : (Nat → Nat → Int32)) (a1 : Int32) (a2 : Int32) : Option (Int32 × (Nat → Nat → Int32)) := dl (a2 - (10 : Int32)) fun zy1 => (d_P_outside a1 (0 : Int32) (20 : Int32)).bind fun zr3 => if zr3 = 0 then (if a2 = 0 then (d_F_best_32 u a1 a2 zy1) else ((d_C_has (sh u 11) zy1).bind fun zr21 => if zr21 = 0 then (some ((-1 : Int32), u)) else (d_F_best_32 u a1 a2 zy1))) else (some ((-1 : Int32), u))
set_option maxRecDepth 100000 in
set_option maxHeartbeats 4000000 in
theorem v_F_best (u : (Nat → Nat → Int32)) (a1 : Int32) (a2 : Int32) {r : Int32 × (Nat → Nat → Int32)} (hd : d_F_best u a1 a2 = some r) : Vd RX6 "best" cX6_best 9 (some .int) (rm 6) (ab_eq (some (.int r.1)) (h_F r.2)) 0 0 0 0 0 [(0, .ref 0), (1, .int a1), (2, .int a2)] [] (h_F u) := by
  unfold d_F_best at hd
  refine v_iload_n dX6_best_0 rfl ?_
  refine v_bipush dX6_best_1 bp_10 ?_
  refine v_isub dX6_best_3 ?_
  refine v_topi (fun zy1 ze2 => ?_)
  have hd := dl_n hd zy1 ze2
  refine v_istore_n (i := 3) (L2 := [(3, .int zy1), (0, .ref 0), (1, .int a1), (2, .int a2)]) dX6_best_4 rfl (Nat.le_of_ble_eq_true rfl) rfl ?_
  refine v_iload_n dX6_best_5 rfl ?_
  refine v_iconst dX6_best_6 ic_0 ?_
  refine v_bipush dX6_best_7 bp_20 ?_
  obtain ⟨zr3, zh4, hd⟩ := g_bind hd
  refine v_cS (dy := 0) (st := []) (st2 := [.int zr3]) (h2 := (h_F u)) [] dX6_best_9 mz_X6_54 (m_P_outside a1 (0 : Int32) (20 : Int32) zh4) rfl rfl rfl rfl rfl rfl (by decide) (by decide) rfl rfl rfl ?_
  refine v_if_ne (tgt := 30) dX6_best_12 (by decide) (fun zc5 => ?_) (fun zc5 => ?_)
  · have hd := g_f hd zc5
    refine v_iconst dX6_best_30 ic_m1 ?_
    obtain rfl := Option.some.inj hd
    exact v_iretE dX6_best_31 rfl rfl rfl rfl
  · have hd := g_t hd zc5
    refine v_iload_n dX6_best_15 rfl ?_
    refine v_if_eq (tgt := 32) dX6_best_16 (by decide) (fun zc6 => ?_) (fun zc6 => ?_)
    · have hd := g_t hd zc6
      refine v_loc [1, 2, 3, 0] rfl ?_
      exact v_F_best_32 u a1 a2 zy1 hd
    · have hd := g_f hd zc6
      refine v_aload_n dX6_best_19 rfl ?_
      refine v_get (v := .ref 11) dX6_best_20 fl_X6_19 rfl rfl ?_
      refine v_iload_n dX6_best_23 rfl ?_
      obtain ⟨zr21, zh22, hd⟩ := g_bind hd
      refine v_cV (dy := 0) (st := []) (st2 := [.int zr21]) (h2 := (h_F u)) [11, 12, 13, 14, 15] dX6_best_24 mv_X6_129 (m_C_has (sh u 11) zy1 zh22) rfl rfl rfl rfl rfl rfl rfl rfl (by decide) (by decide) rfl rfl rfl ?_
      refine v_if_ne (tgt := 32) dX6_best_27 (by decide) (fun zc23 => ?_) (fun zc23 => ?_)
      · have hd := g_f hd zc23
        refine v_loc [1, 2, 3, 0] rfl ?_
        exact v_F_best_32 u a1 a2 zy1 hd
      · have hd := g_t hd zc23
        refine v_iconst dX6_best_30 ic_m1 ?_
        obtain rfl := Option.some.inj hd
        exact v_iretE dX6_best_31 rfl rfl rfl rfl
theorem m_F_best (u : (Nat → Nat → Int32)) (a1 : Int32) (a2 : Int32) {r : Int32 × (Nat → Nat → Int32)} (hd : d_F_best u a1 a2 = some r) : Mt yX6_best cX6_best 9 (some .int) (rm 6) [.ref 0, .int a1, .int a2] (h_F u) (ab_eq (some (.int r.1)) (h_F r.2)) := Mt.of (by decide +kernel) (fun _ _ _ => trivial) (Nat.le_of_ble_eq_true rfl) (v_F_best u a1 a2 hd)
def d_F_lossAsItIs (u : (Nat → Nat → Int32)) (a1 : Int32) : Option (Int32 × (Nat → Nat → Int32)) := (d_F_startTrial u).bind fun zr1 => (d_C_passNights (sh zr1 16) a1).bind fun zr3 => (d_C_loss (sh (pt zr1 16 5 zr3) 16)).bind fun zr5 => some (zr5, (pt zr1 16 5 zr3))
set_option maxRecDepth 100000 in
set_option maxHeartbeats 4000000 in
theorem v_F_lossAsItIs (u : (Nat → Nat → Int32)) (a1 : Int32) {r : Int32 × (Nat → Nat → Int32)} (hd : d_F_lossAsItIs u a1 = some r) : Vd RX6 "lossAsItIs" cX6_lossAsItIs 2 (some .int) (rm 5) (ab_eq (some (.int r.1)) (h_F r.2)) 0 0 0 0 0 [(0, .ref 0), (1, .int a1)] [] (h_F u) := by
  unfold d_F_lossAsItIs at hd
  refine v_aload_n dX6_lossAsItIs_0 rfl ?_
  obtain ⟨zr1, zh2, hd⟩ := g_bind hd
  refine v_cI (dy := 2) (st := []) (st2 := []) dX6_lossAsItIs_1 mv_X6_149 (m_F_startTrial u zh2) rfl rfl rfl rfl rfl (by decide) (by decide) rfl rfl ?_
  refine v_aload_n dX6_lossAsItIs_4 rfl ?_
  refine v_get (v := .ref 16) dX6_lossAsItIs_5 fl_X6_23 rfl rfl ?_
  refine v_iload_n dX6_lossAsItIs_8 rfl ?_
  obtain ⟨zr3, zh4, hd⟩ := g_bind hd
  refine v_cV (dy := 4) (st := []) (st2 := []) (h2 := (h_F (pt zr1 16 5 zr3))) [16, 17, 18, 19, 20] dX6_lossAsItIs_9 mv_X6_145 (m_C_passNights (sh zr1 16) a1 zh4) rfl rfl rfl rfl rfl rfl rfl rfl (by decide) (by decide) rfl rfl rfl ?_
  refine v_aload_n dX6_lossAsItIs_12 rfl ?_
  refine v_get (v := .ref 16) dX6_lossAsItIs_13 fl_X6_23 rfl rfl ?_
  obtain ⟨zr5, zh6, hd⟩ := g_bind hd
  refine v_cV (dy := 0) (st := []) (st2 := [.int zr5]) (h2 := (h_F (pt zr1 16 5 zr3))) [16, 17, 18, 19, 20] dX6_lossAsItIs_16 mv_X6_172 (m_C_loss (sh (pt zr1 16 5 zr3) 16) zh6) rfl rfl rfl rfl rfl rfl rfl rfl (by decide) (by decide) rfl rfl rfl ?_
  obtain rfl := Option.some.inj hd
  exact v_iretE dX6_lossAsItIs_19 rfl rfl rfl rfl
theorem m_F_lossAsItIs (u : (Nat → Nat → Int32)) (a1 : Int32) {r : Int32 × (Nat → Nat → Int32)} (hd : d_F_lossAsItIs u a1 = some r) : Mt yX6_lossAsItIs cX6_lossAsItIs 2 (some .int) (rm 5) [.ref 0, .int a1] (h_F u) (ab_eq (some (.int r.1)) (h_F r.2)) := Mt.of (by decide +kernel) (fun _ _ _ => trivial) (Nat.le_of_ble_eq_true rfl) (v_F_lossAsItIs u a1 hd)
def d_F_playWith (u : (Nat → Nat → Int32)) (a1 : Int32) (a2 : Int32) (a3 : Int32) : Option ((Nat → Nat → Int32)) := (d_F_startTrial u).bind fun zr1 => (d_C_putKindIn (sh zr1 16) a1 a2).bind fun zr3 => (d_C_passNights (sh (pt zr1 16 5 zr3) 16) a3).bind fun zr5 => some (pt (pt zr1 16 5 zr3) 16 5 zr5)
set_option maxRecDepth 100000 in
set_option maxHeartbeats 4000000 in
theorem v_F_playWith (u : (Nat → Nat → Int32)) (a1 : Int32) (a2 : Int32) (a3 : Int32) {r : (Nat → Nat → Int32)} (hd : d_F_playWith u a1 a2 a3 = some r) : Vd RX6 "playWith" cX6_playWith 4 (some (.object "FireLeave$City")) (rm 5) (ab_eq (some (.ref 16)) (h_F r)) 0 0 0 0 0 [(0, .ref 0), (1, .int a1), (2, .int a2), (3, .int a3)] [] (h_F u) := by
  unfold d_F_playWith at hd
  refine v_aload_n dX6_playWith_0 rfl ?_
  obtain ⟨zr1, zh2, hd⟩ := g_bind hd
  refine v_cI (dy := 2) (st := []) (st2 := []) dX6_playWith_1 mv_X6_149 (m_F_startTrial u zh2) rfl rfl rfl rfl rfl (by decide) (by decide) rfl rfl ?_
  refine v_aload_n dX6_playWith_4 rfl ?_
  refine v_get (v := .ref 16) dX6_playWith_5 fl_X6_23 rfl rfl ?_
  refine v_iload_n dX6_playWith_8 rfl ?_
  refine v_iload_n dX6_playWith_9 rfl ?_
  obtain ⟨zr3, zh4, hd⟩ := g_bind hd
  refine v_cV (dy := 0) (st := []) (st2 := []) (h2 := (h_F (pt zr1 16 5 zr3))) [16, 17, 18, 19, 20] dX6_playWith_10 mv_X6_271 (m_C_putKindIn (sh zr1 16) a1 a2 zh4) rfl rfl rfl rfl rfl rfl rfl rfl (by decide) (by decide) rfl rfl rfl ?_
  refine v_aload_n dX6_playWith_13 rfl ?_
  refine v_get (v := .ref 16) dX6_playWith_14 fl_X6_23 rfl rfl ?_
  refine v_iload_n dX6_playWith_17 rfl ?_
  obtain ⟨zr5, zh6, hd⟩ := g_bind hd
  refine v_cV (dy := 4) (st := []) (st2 := []) (h2 := (h_F (pt (pt zr1 16 5 zr3) 16 5 zr5))) [16, 17, 18, 19, 20] dX6_playWith_18 mv_X6_145 (m_C_passNights (sh (pt zr1 16 5 zr3) 16) a3 zh6) rfl rfl rfl rfl rfl rfl rfl rfl (by decide) (by decide) rfl rfl rfl ?_
  refine v_aload_n dX6_playWith_21 rfl ?_
  refine v_get (v := .ref 16) dX6_playWith_22 fl_X6_23 rfl rfl ?_
  obtain rfl := Option.some.inj hd
  exact v_aretE dX6_playWith_25 rfl rfl rfl
theorem m_F_playWith (u : (Nat → Nat → Int32)) (a1 : Int32) (a2 : Int32) (a3 : Int32) {r : (Nat → Nat → Int32)} (hd : d_F_playWith u a1 a2 a3 = some r) : Mt yX6_playWith cX6_playWith 4 (some (.object "FireLeave$City")) (rm 5) [.ref 0, .int a1, .int a2, .int a3] (h_F u) (ab_eq (some (.ref 16)) (h_F r)) := Mt.of (by decide +kernel) (fun _ _ _ => trivial) (Nat.le_of_ble_eq_true rfl) (v_F_playWith u a1 a2 a3 hd)

def d_F_change_90 (k34 : (Nat → Nat → Int32) → Int32 → Int32 → Int32 → Int32 → Int32 → Option (Int32 × (Nat → Nat → Int32))) (k49 : (Nat → Nat → Int32) → Int32 → Int32 → Int32 → Int32 → Int32 → Int32 → Option (Int32 × (Nat → Nat → Int32))) (u : (Nat → Nat → Int32)) (x1 : Int32) (x2 : Int32) (x3 : Int32) (x4 : Int32) (x5 : Int32) (x6 : Int32) : Option (Int32 × (Nat → Nat → Int32)) := dl (x6 + (1 : Int32)) fun zy20 => k49 u x1 x2 x3 x4 x5 zy20
set_option maxRecDepth 100000 in
set_option maxHeartbeats 4000000 in
theorem v_F_change_90  {r : Int32 × (Nat → Nat → Int32)} (k34 : (Nat → Nat → Int32) → Int32 → Int32 → Int32 → Int32 → Int32 → Option (Int32 × (Nat → Nat → Int32))) (hk34 : ∀ (u : (Nat → Nat → Int32)) (x1 : Int32) (x2 : Int32) (x3 : Int32) (x4 : Int32) (x5 : Int32), k34 u x1 x2 x3 x4 x5 = some r → Vd RX6 "change" cX6_change 8 (some .int) (rm 6) (ab_eq (some (.int r.1)) (h_F r.2)) 0 0 0 0 34 [(0, .ref 0), (1, .int x1), (2, .int x2), (3, .int x3), (4, .int x4), (5, .int x5)] [] (h_F u)) (k49 : (Nat → Nat → Int32) → Int32 → Int32 → Int32 → Int32 → Int32 → Int32 → Option (Int32 × (Nat → Nat → Int32))) (hk49 : ∀ (u : (Nat → Nat → Int32)) (x1 : Int32) (x2 : Int32) (x3 : Int32) (x4 : Int32) (x5 : Int32) (x6 : Int32), k49 u x1 x2 x3 x4 x5 x6 = some r → Vd RX6 "change" cX6_change 8 (some .int) (rm 6) (ab_eq (some (.int r.1)) (h_F r.2)) 0 0 0 0 49 [(0, .ref 0), (1, .int x1), (2, .int x2), (3, .int x3), (4, .int x4), (5, .int x5), (6, .int x6)] [] (h_F u)) (u : (Nat → Nat → Int32)) (x1 : Int32) (x2 : Int32) (x3 : Int32) (x4 : Int32) (x5 : Int32) (x6 : Int32) (hd : d_F_change_90 k34 k49 u x1 x2 x3 x4 x5 x6 = some r) : Vd RX6 "change" cX6_change 8 (some .int) (rm 6) (ab_eq (some (.int r.1)) (h_F r.2)) 0 0 0 0 90 [(0, .ref 0), (1, .int x1), (2, .int x2), (3, .int x3), (4, .int x4), (5, .int x5), (6, .int x6)] [] (h_F u) := by
  unfold d_F_change_90 at hd
  obtain ⟨zy20, ze21⟩ : ∃ z : Int32, z = (x6 + (1 : Int32)) := ⟨_, rfl⟩
  have hd := dl_n hd zy20 ze21
  refine v_iinc (v := zy20) (L2 := [(6, .int zy20), (0, .ref 0), (1, .int x1), (2, .int x2), (3, .int x3), (4, .int x4), (5, .int x5)]) dX6_change_90 rfl (by rw [ic_1]; exact ze21.symm) (Nat.le_of_ble_eq_true rfl) rfl ?_
  refine v_goto (tgt := 49) dX6_change_93 (by decide) ?_
  refine v_loc [1, 2, 3, 4, 5, 6, 0] rfl ?_
  exact hk49 u x1 x2 x3 x4 x5 zy20 hd

def d_F_change_49 (k34 : (Nat → Nat → Int32) → Int32 → Int32 → Int32 → Int32 → Int32 → Option (Int32 × (Nat → Nat → Int32))) : Nat → (Nat → Nat → Int32) → Int32 → Int32 → Int32 → Int32 → Int32 → Int32 → Option (Int32 × (Nat → Nat → Int32))
  | 0, _, _, _, _, _, _, _ => none
  | f + 1, u, x1, x2, x3, x4, x5, x6 => if (4 : Int32) ≤ x6 then (dl (x5 + (1 : Int32)) fun zy13 => k34 u x1 x2 x3 x4 zy13) else ((d_F_playWith u ((1 : Int32) <<< (x5 &&& 31)) x6 x1).bind fun zr15 => (d_C_loss (sh zr15 16)).bind fun zr17 => if x3 ≤ zr17 then (d_F_change_90 k34 (d_F_change_49 k34 f) zr15 x1 x2 x3 x4 x5 x6) else (dl (((10 : Int32) * x5) + x6) fun zy22 => d_F_change_90 k34 (d_F_change_49 k34 f) zr15 x1 x2 zr17 zy22 x5 x6))
set_option maxRecDepth 100000 in
set_option maxHeartbeats 4000000 in
theorem v_F_change_49  {r : Int32 × (Nat → Nat → Int32)} (k34 : (Nat → Nat → Int32) → Int32 → Int32 → Int32 → Int32 → Int32 → Option (Int32 × (Nat → Nat → Int32))) (hk34 : ∀ (u : (Nat → Nat → Int32)) (x1 : Int32) (x2 : Int32) (x3 : Int32) (x4 : Int32) (x5 : Int32), k34 u x1 x2 x3 x4 x5 = some r → Vd RX6 "change" cX6_change 8 (some .int) (rm 6) (ab_eq (some (.int r.1)) (h_F r.2)) 0 0 0 0 34 [(0, .ref 0), (1, .int x1), (2, .int x2), (3, .int x3), (4, .int x4), (5, .int x5)] [] (h_F u)) : ∀ (f : Nat) (u : (Nat → Nat → Int32)) (x1 : Int32) (x2 : Int32) (x3 : Int32) (x4 : Int32) (x5 : Int32) (x6 : Int32), d_F_change_49 k34 f u x1 x2 x3 x4 x5 x6 = some r → Vd RX6 "change" cX6_change 8 (some .int) (rm 6) (ab_eq (some (.int r.1)) (h_F r.2)) 0 0 0 0 49 [(0, .ref 0), (1, .int x1), (2, .int x2), (3, .int x3), (4, .int x4), (5, .int x5), (6, .int x6)] [] (h_F u) := by
  intro f
  induction f with
  | zero =>
    intro u x1 x2 x3 x4 x5 x6 hd
    rw [d_F_change_49] at hd
    cases hd
  | succ f ih =>
    intro u x1 x2 x3 x4 x5 x6 hd
    rw [d_F_change_49] at hd
    refine v_iload dX6_change_49 rfl ?_
    refine v_iconst dX6_change_51 ic_4 ?_
    refine v_icmp_ge (tgt := 96) dX6_change_52 (by decide) (fun zc12 => ?_) (fun zc12 => ?_)
    · have hd := g_t hd zc12
      obtain ⟨zy13, ze14⟩ : ∃ z : Int32, z = (x5 + (1 : Int32)) := ⟨_, rfl⟩
      have hd := dl_n hd zy13 ze14
      refine v_iinc (v := zy13) (L2 := [(5, .int zy13), (0, .ref 0), (1, .int x1), (2, .int x2), (3, .int x3), (4, .int x4), (6, .int x6)]) dX6_change_96 rfl (by rw [ic_1]; exact ze14.symm) (Nat.le_of_ble_eq_true rfl) rfl ?_
      refine v_goto (tgt := 34) dX6_change_99 (by decide) ?_
      refine v_loc [1, 2, 3, 4, 5, 0] rfl ?_
      exact hk34 u x1 x2 x3 x4 zy13 hd
    · have hd := g_f hd zc12
      refine v_aload_n dX6_change_55 rfl ?_
      refine v_iconst dX6_change_56 ic_1 ?_
      refine v_iload dX6_change_57 rfl ?_
      refine v_ishl dX6_change_59 ?_
      refine v_iload dX6_change_60 rfl ?_
      refine v_iload_n dX6_change_62 rfl ?_
      obtain ⟨zr15, zh16, hd⟩ := g_bind hd
      refine v_cI (dy := 5) (st := []) (st2 := [.ref 16]) dX6_change_63 mv_X6_168 (m_F_playWith u ((1 : Int32) <<< (x5 &&& 31)) x6 x1 zh16) rfl rfl rfl rfl rfl (by decide) (by decide) rfl rfl ?_
      obtain ⟨zr17, zh18, hd⟩ := g_bind hd
      refine v_cV (dy := 0) (st := []) (st2 := [.int zr17]) (h2 := (h_F zr15)) [16, 17, 18, 19, 20] dX6_change_66 mv_X6_172 (m_C_loss (sh zr15 16) zh18) rfl rfl rfl rfl rfl rfl rfl rfl (by decide) (by decide) rfl rfl rfl ?_
      refine v_istore (i := 7) (L2 := [(7, .int zr17), (0, .ref 0), (1, .int x1), (2, .int x2), (3, .int x3), (4, .int x4), (5, .int x5), (6, .int x6)]) dX6_change_69 (Nat.le_of_ble_eq_true rfl) rfl ?_
      refine v_iload dX6_change_71 rfl ?_
      refine v_iload_n dX6_change_73 rfl ?_
      refine v_icmp_ge (tgt := 90) dX6_change_74 (by decide) (fun zc19 => ?_) (fun zc19 => ?_)
      · have hd := g_t hd zc19
        refine v_loc [1, 2, 3, 4, 5, 6, 7] rfl ?_
        exact v_F_change_90 k34 (hk34) (d_F_change_49 k34 f) (ih) zr15 x1 x2 x3 x4 x5 x6 hd
      · have hd := g_f hd zc19
        refine v_iload dX6_change_77 rfl ?_
        refine v_istore_n (i := 3) (L2 := [(3, .int zr17), (7, .int zr17), (0, .ref 0), (1, .int x1), (2, .int x2), (4, .int x4), (5, .int x5), (6, .int x6)]) dX6_change_79 rfl (Nat.le_of_ble_eq_true rfl) rfl ?_
        refine v_bipush dX6_change_80 bp_10 ?_
        refine v_iload dX6_change_82 rfl ?_
        refine v_imul dX6_change_84 ?_
        refine v_iload dX6_change_85 rfl ?_
        refine v_iadd dX6_change_87 ?_
        refine v_topi (fun zy22 ze23 => ?_)
        have hd := dl_n hd zy22 ze23
        refine v_istore (i := 4) (L2 := [(4, .int zy22), (3, .int zr17), (7, .int zr17), (0, .ref 0), (1, .int x1), (2, .int x2), (5, .int x5), (6, .int x6)]) dX6_change_88 (Nat.le_of_ble_eq_true rfl) rfl ?_
        refine v_loc [3, 4, 5, 1, 0, 6, 7] rfl ?_
        exact v_F_change_90 k34 (hk34) (d_F_change_49 k34 f) (ih) zr15 x1 x2 zr17 zy22 x5 x6 hd

def d_F_change_34  : Nat → (Nat → Nat → Int32) → Int32 → Int32 → Int32 → Int32 → Int32 → Option (Int32 × (Nat → Nat → Int32))
  | 0, _, _, _, _, _, _ => none
  | f + 1, u, x1, x2, x3, x4, x5 => if (u 11 4) ≤ x5 then (if x4 = (-4 : Int32) then (some ((-4 : Int32), u)) else (if x2 = 0 then (some (x4, u)) else (some (x3, u)))) else (d_F_change_49 (d_F_change_34 f) FU u x1 x2 x3 x4 x5 (0 : Int32))
set_option maxRecDepth 100000 in
set_option maxHeartbeats 4000000 in
theorem v_F_change_34  {r : Int32 × (Nat → Nat → Int32)}  : ∀ (f : Nat) (u : (Nat → Nat → Int32)) (x1 : Int32) (x2 : Int32) (x3 : Int32) (x4 : Int32) (x5 : Int32), d_F_change_34  f u x1 x2 x3 x4 x5 = some r → Vd RX6 "change" cX6_change 8 (some .int) (rm 6) (ab_eq (some (.int r.1)) (h_F r.2)) 0 0 0 0 34 [(0, .ref 0), (1, .int x1), (2, .int x2), (3, .int x3), (4, .int x4), (5, .int x5)] [] (h_F u) := by
  intro f
  induction f with
  | zero =>
    intro u x1 x2 x3 x4 x5 hd
    rw [d_F_change_34] at hd
    cases hd
  | succ f ih =>
    intro u x1 x2 x3 x4 x5 hd
    rw [d_F_change_34] at hd
    refine v_iload dX6_change_34 rfl ?_
    refine v_aload_n dX6_change_36 rfl ?_
    refine v_get (v := .ref 11) dX6_change_37 fl_X6_19 rfl rfl ?_
    refine v_get (v := .int (u 11 4)) dX6_change_40 fl_X6_101 rfl rfl ?_
    refine v_icmp_ge (tgt := 102) dX6_change_43 (by decide) (fun zc9 => ?_) (fun zc9 => ?_)
    · have hd := g_t hd zc9
      refine v_iload dX6_change_102 rfl ?_
      refine v_bipush dX6_change_104 bp_m4 ?_
      refine v_icmp_ne (tgt := 112) dX6_change_106 (by decide) (fun zc10 => ?_) (fun zc10 => ?_)
      · have hd := g_f hd zc10
        refine v_iload_n dX6_change_112 rfl ?_
        refine v_if_ne (tgt := 121) dX6_change_113 (by decide) (fun zc11 => ?_) (fun zc11 => ?_)
        · have hd := g_f hd zc11
          refine v_iload_n dX6_change_121 rfl ?_
          obtain rfl := Option.some.inj hd
          exact v_iretE dX6_change_122 rfl rfl rfl rfl
        · have hd := g_t hd zc11
          refine v_iload dX6_change_116 rfl ?_
          refine v_goto (tgt := 122) dX6_change_118 (by decide) ?_
          obtain rfl := Option.some.inj hd
          exact v_iretE dX6_change_122 rfl rfl rfl rfl
      · have hd := g_t hd zc10
        refine v_bipush dX6_change_109 bp_m4 ?_
        obtain rfl := Option.some.inj hd
        exact v_iretE dX6_change_111 rfl rfl rfl rfl
    · have hd := g_f hd zc9
      refine v_iconst dX6_change_46 ic_0 ?_
      refine v_istore (i := 6) (L2 := [(6, .int (0 : Int32)), (0, .ref 0), (1, .int x1), (2, .int x2), (3, .int x3), (4, .int x4), (5, .int x5)]) dX6_change_47 (Nat.le_of_ble_eq_true rfl) rfl ?_
      refine v_loc [1, 2, 3, 4, 5, 6, 0] rfl ?_
      exact v_F_change_49 (d_F_change_34 f) (ih) FU u x1 x2 x3 x4 x5 (0 : Int32) hd
def d_F_change (u : (Nat → Nat → Int32)) (a1 : Int32) (a2 : Int32) : Option (Int32 × (Nat → Nat → Int32)) := (d_P_outside a1 (0 : Int32) (20 : Int32)).bind fun zr1 => if zr1 = 0 then ((d_P_outside a2 (0 : Int32) (1 : Int32)).bind fun zr4 => if zr4 = 0 then ((d_F_lossAsItIs u a1).bind fun zr7 => d_F_change_34 FU zr7.2 a1 a2 zr7.1 (-4 : Int32) (0 : Int32)) else (some ((-1 : Int32), u))) else (some ((-1 : Int32), u))
set_option maxRecDepth 100000 in
set_option maxHeartbeats 4000000 in
theorem v_F_change (u : (Nat → Nat → Int32)) (a1 : Int32) (a2 : Int32) {r : Int32 × (Nat → Nat → Int32)} (hd : d_F_change u a1 a2 = some r) : Vd RX6 "change" cX6_change 8 (some .int) (rm 6) (ab_eq (some (.int r.1)) (h_F r.2)) 0 0 0 0 0 [(0, .ref 0), (1, .int a1), (2, .int a2)] [] (h_F u) := by
  unfold d_F_change at hd
  refine v_iload_n dX6_change_0 rfl ?_
  refine v_iconst dX6_change_1 ic_0 ?_
  refine v_bipush dX6_change_2 bp_20 ?_
  obtain ⟨zr1, zh2, hd⟩ := g_bind hd
  refine v_cS (dy := 0) (st := []) (st2 := [.int zr1]) (h2 := (h_F u)) [] dX6_change_4 mz_X6_54 (m_P_outside a1 (0 : Int32) (20 : Int32) zh2) rfl rfl rfl rfl rfl rfl (by decide) (by decide) rfl rfl rfl ?_
  refine v_if_ne (tgt := 19) dX6_change_7 (by decide) (fun zc3 => ?_) (fun zc3 => ?_)
  · have hd := g_f hd zc3
    refine v_iconst dX6_change_19 ic_m1 ?_
    obtain rfl := Option.some.inj hd
    exact v_iretE dX6_change_20 rfl rfl rfl rfl
  · have hd := g_t hd zc3
    refine v_iload_n dX6_change_10 rfl ?_
    refine v_iconst dX6_change_11 ic_0 ?_
    refine v_iconst dX6_change_12 ic_1 ?_
    obtain ⟨zr4, zh5, hd⟩ := g_bind hd
    refine v_cS (dy := 0) (st := []) (st2 := [.int zr4]) (h2 := (h_F u)) [] dX6_change_13 mz_X6_54 (m_P_outside a2 (0 : Int32) (1 : Int32) zh5) rfl rfl rfl rfl rfl rfl (by decide) (by decide) rfl rfl rfl ?_
    refine v_if_eq (tgt := 21) dX6_change_16 (by decide) (fun zc6 => ?_) (fun zc6 => ?_)
    · have hd := g_t hd zc6
      refine v_aload_n dX6_change_21 rfl ?_
      refine v_iload_n dX6_change_22 rfl ?_
      obtain ⟨zr7, zh8, hd⟩ := g_bind hd
      refine v_cI (dy := 5) (st := []) (st2 := [.int zr7.1]) dX6_change_23 mv_X6_164 (m_F_lossAsItIs u a1 zh8) rfl rfl rfl rfl rfl (by decide) (by decide) rfl rfl ?_
      refine v_istore_n (i := 3) (L2 := [(3, .int zr7.1), (0, .ref 0), (1, .int a1), (2, .int a2)]) dX6_change_26 rfl (Nat.le_of_ble_eq_true rfl) rfl ?_
      refine v_bipush dX6_change_27 bp_m4 ?_
      refine v_istore (i := 4) (L2 := [(4, .int (-4 : Int32)), (3, .int zr7.1), (0, .ref 0), (1, .int a1), (2, .int a2)]) dX6_change_29 (Nat.le_of_ble_eq_true rfl) rfl ?_
      refine v_iconst dX6_change_31 ic_0 ?_
      refine v_istore (i := 5) (L2 := [(5, .int (0 : Int32)), (4, .int (-4 : Int32)), (3, .int zr7.1), (0, .ref 0), (1, .int a1), (2, .int a2)]) dX6_change_32 (Nat.le_of_ble_eq_true rfl) rfl ?_
      refine v_loc [3, 4, 5, 2, 1, 0] rfl ?_
      exact v_F_change_34 FU zr7.2 a1 a2 zr7.1 (-4 : Int32) (0 : Int32) hd
    · have hd := g_f hd zc6
      refine v_iconst dX6_change_19 ic_m1 ?_
      obtain rfl := Option.some.inj hd
      exact v_iretE dX6_change_20 rfl rfl rfl rfl
theorem m_F_change (u : (Nat → Nat → Int32)) (a1 : Int32) (a2 : Int32) {r : Int32 × (Nat → Nat → Int32)} (hd : d_F_change u a1 a2 = some r) : Mt yX6_change cX6_change 8 (some .int) (rm 6) [.ref 0, .int a1, .int a2] (h_F u) (ab_eq (some (.int r.1)) (h_F r.2)) := Mt.of (by decide +kernel) (fun _ _ _ => trivial) (Nat.le_of_ble_eq_true rfl) (v_F_change u a1 a2 hd)

def d_F_cooks_79 (k31 : (Nat → Nat → Int32) → Int32 → Int32 → Int32 → Int32 → Int32 → Option (Int32 × (Nat → Nat → Int32))) (u : (Nat → Nat → Int32)) (x1 : Int32) (x2 : Int32) (x3 : Int32) (x4 : Int32) (x5 : Int32) : Option (Int32 × (Nat → Nat → Int32)) := dl (x5 + (1 : Int32)) fun zy13 => k31 u x1 x2 x3 x4 zy13
set_option maxRecDepth 100000 in
set_option maxHeartbeats 4000000 in
theorem v_F_cooks_79  {r : Int32 × (Nat → Nat → Int32)} (k31 : (Nat → Nat → Int32) → Int32 → Int32 → Int32 → Int32 → Int32 → Option (Int32 × (Nat → Nat → Int32))) (hk31 : ∀ (u : (Nat → Nat → Int32)) (x1 : Int32) (x2 : Int32) (x3 : Int32) (x4 : Int32) (x5 : Int32), k31 u x1 x2 x3 x4 x5 = some r → Vd RX6 "cooks" cX6_cooks 7 (some .int) (rm 6) (ab_eq (some (.int r.1)) (h_F r.2)) 0 0 0 0 31 [(0, .ref 0), (1, .int x1), (2, .int x2), (3, .int x3), (4, .int x4), (5, .int x5)] [] (h_F u)) (u : (Nat → Nat → Int32)) (x1 : Int32) (x2 : Int32) (x3 : Int32) (x4 : Int32) (x5 : Int32) (hd : d_F_cooks_79 k31 u x1 x2 x3 x4 x5 = some r) : Vd RX6 "cooks" cX6_cooks 7 (some .int) (rm 6) (ab_eq (some (.int r.1)) (h_F r.2)) 0 0 0 0 79 [(0, .ref 0), (1, .int x1), (2, .int x2), (3, .int x3), (4, .int x4), (5, .int x5)] [] (h_F u) := by
  unfold d_F_cooks_79 at hd
  obtain ⟨zy13, ze14⟩ : ∃ z : Int32, z = (x5 + (1 : Int32)) := ⟨_, rfl⟩
  have hd := dl_n hd zy13 ze14
  refine v_iinc (v := zy13) (L2 := [(5, .int zy13), (0, .ref 0), (1, .int x1), (2, .int x2), (3, .int x3), (4, .int x4)]) dX6_cooks_79 rfl (by rw [ic_1]; exact ze14.symm) (Nat.le_of_ble_eq_true rfl) rfl ?_
  refine v_goto (tgt := 31) dX6_cooks_82 (by decide) ?_
  refine v_loc [1, 2, 3, 4, 5, 0] rfl ?_
  exact hk31 u x1 x2 x3 x4 zy13 hd

def d_F_cooks_31  : Nat → (Nat → Nat → Int32) → Int32 → Int32 → Int32 → Int32 → Int32 → Option (Int32 × (Nat → Nat → Int32))
  | 0, _, _, _, _, _, _ => none
  | f + 1, u, x1, x2, x3, x4, x5 => if ((1 : Int32) <<< ((u 11 4) &&& 31)) ≤ x5 then (if x4 = (-4 : Int32) then (some ((-4 : Int32), u)) else (if x2 = 0 then (some (x3, u)) else (some (x4, u)))) else ((d_P_bitCount x5).bind fun zr10 => if x3 ≤ zr10 then (d_F_cooks_79 (d_F_cooks_31 f) u x1 x2 x3 x4 x5) else ((d_F_playWith u x5 (3 : Int32) x1).bind fun zr15 => if (zr15 16 10) = 0 then (d_F_cooks_79 (d_F_cooks_31 f) zr15 x1 x2 zr10 x5 x5) else (d_F_cooks_79 (d_F_cooks_31 f) zr15 x1 x2 x3 x4 x5)))
set_option maxRecDepth 100000 in
set_option maxHeartbeats 4000000 in
theorem v_F_cooks_31  {r : Int32 × (Nat → Nat → Int32)}  : ∀ (f : Nat) (u : (Nat → Nat → Int32)) (x1 : Int32) (x2 : Int32) (x3 : Int32) (x4 : Int32) (x5 : Int32), d_F_cooks_31  f u x1 x2 x3 x4 x5 = some r → Vd RX6 "cooks" cX6_cooks 7 (some .int) (rm 6) (ab_eq (some (.int r.1)) (h_F r.2)) 0 0 0 0 31 [(0, .ref 0), (1, .int x1), (2, .int x2), (3, .int x3), (4, .int x4), (5, .int x5)] [] (h_F u) := by
  intro f
  induction f with
  | zero =>
    intro u x1 x2 x3 x4 x5 hd
    rw [d_F_cooks_31] at hd
    cases hd
  | succ f ih =>
    intro u x1 x2 x3 x4 x5 hd
    rw [d_F_cooks_31] at hd
    refine v_iload dX6_cooks_31 rfl ?_
    refine v_iconst dX6_cooks_33 ic_1 ?_
    refine v_aload_n dX6_cooks_34 rfl ?_
    refine v_get (v := .ref 11) dX6_cooks_35 fl_X6_19 rfl rfl ?_
    refine v_get (v := .int (u 11 4)) dX6_cooks_38 fl_X6_101 rfl rfl ?_
    refine v_ishl dX6_cooks_41 ?_
    refine v_icmp_ge (tgt := 85) dX6_cooks_42 (by decide) (fun zc7 => ?_) (fun zc7 => ?_)
    · have hd := g_t hd zc7
      refine v_iload dX6_cooks_85 rfl ?_
      refine v_bipush dX6_cooks_87 bp_m4 ?_
      refine v_icmp_ne (tgt := 95) dX6_cooks_89 (by decide) (fun zc8 => ?_) (fun zc8 => ?_)
      · have hd := g_f hd zc8
        refine v_iload_n dX6_cooks_95 rfl ?_
        refine v_if_ne (tgt := 103) dX6_cooks_96 (by decide) (fun zc9 => ?_) (fun zc9 => ?_)
        · have hd := g_f hd zc9
          refine v_iload dX6_cooks_103 rfl ?_
          obtain rfl := Option.some.inj hd
          exact v_iretE dX6_cooks_105 rfl rfl rfl rfl
        · have hd := g_t hd zc9
          refine v_iload_n dX6_cooks_99 rfl ?_
          refine v_goto (tgt := 105) dX6_cooks_100 (by decide) ?_
          obtain rfl := Option.some.inj hd
          exact v_iretE dX6_cooks_105 rfl rfl rfl rfl
      · have hd := g_t hd zc8
        refine v_bipush dX6_cooks_92 bp_m4 ?_
        obtain rfl := Option.some.inj hd
        exact v_iretE dX6_cooks_94 rfl rfl rfl rfl
    · have hd := g_f hd zc7
      refine v_iload dX6_cooks_45 rfl ?_
      obtain ⟨zr10, zh11, hd⟩ := g_bind hd
      refine v_cS (dy := 0) (st := []) (st2 := [.int zr10]) (h2 := (h_F u)) [] dX6_cooks_47 mz_X6_175 (m_P_bitCount x5 zh11) rfl rfl rfl rfl rfl rfl (by decide) (by decide) rfl rfl rfl ?_
      refine v_istore (i := 6) (L2 := [(6, .int zr10), (0, .ref 0), (1, .int x1), (2, .int x2), (3, .int x3), (4, .int x4), (5, .int x5)]) dX6_cooks_50 (Nat.le_of_ble_eq_true rfl) rfl ?_
      refine v_iload dX6_cooks_52 rfl ?_
      refine v_iload_n dX6_cooks_54 rfl ?_
      refine v_icmp_ge (tgt := 79) dX6_cooks_55 (by decide) (fun zc12 => ?_) (fun zc12 => ?_)
      · have hd := g_t hd zc12
        refine v_loc [1, 2, 3, 4, 5, 6] rfl ?_
        exact v_F_cooks_79 (d_F_cooks_31 f) (ih) u x1 x2 x3 x4 x5 hd
      · have hd := g_f hd zc12
        refine v_aload_n dX6_cooks_58 rfl ?_
        refine v_iload dX6_cooks_59 rfl ?_
        refine v_iconst dX6_cooks_61 ic_3 ?_
        refine v_iload_n dX6_cooks_62 rfl ?_
        obtain ⟨zr15, zh16, hd⟩ := g_bind hd
        refine v_cI (dy := 5) (st := []) (st2 := [.ref 16]) dX6_cooks_63 mv_X6_168 (m_F_playWith u x5 (3 : Int32) x1 zh16) rfl rfl rfl rfl rfl (by decide) (by decide) rfl rfl ?_
        refine v_get (v := .int (zr15 16 10)) dX6_cooks_66 fl_X6_119 rfl rfl ?_
        refine v_if_ne (tgt := 79) dX6_cooks_69 (by decide) (fun zc17 => ?_) (fun zc17 => ?_)
        · have hd := g_f hd zc17
          refine v_loc [1, 2, 3, 4, 5, 6] rfl ?_
          exact v_F_cooks_79 (d_F_cooks_31 f) (ih) zr15 x1 x2 x3 x4 x5 hd
        · have hd := g_t hd zc17
          refine v_iload dX6_cooks_72 rfl ?_
          refine v_istore_n (i := 3) (L2 := [(3, .int zr10), (6, .int zr10), (0, .ref 0), (1, .int x1), (2, .int x2), (4, .int x4), (5, .int x5)]) dX6_cooks_74 rfl (Nat.le_of_ble_eq_true rfl) rfl ?_
          refine v_iload dX6_cooks_75 rfl ?_
          refine v_istore (i := 4) (L2 := [(4, .int x5), (3, .int zr10), (6, .int zr10), (0, .ref 0), (1, .int x1), (2, .int x2), (5, .int x5)]) dX6_cooks_77 (Nat.le_of_ble_eq_true rfl) rfl ?_
          refine v_loc [3, 4, 5, 1, 0, 6] rfl ?_
          exact v_F_cooks_79 (d_F_cooks_31 f) (ih) zr15 x1 x2 zr10 x5 x5 hd
def d_F_cooks (u : (Nat → Nat → Int32)) (a1 : Int32) (a2 : Int32) : Option (Int32 × (Nat → Nat → Int32)) := (d_P_outside a1 (0 : Int32) (20 : Int32)).bind fun zr1 => if zr1 = 0 then ((d_P_outside a2 (0 : Int32) (1 : Int32)).bind fun zr4 => if zr4 = 0 then (d_F_cooks_31 FU u a1 a2 (6 : Int32) (-4 : Int32) (0 : Int32)) else (some ((-1 : Int32), u))) else (some ((-1 : Int32), u))
set_option maxRecDepth 100000 in
set_option maxHeartbeats 4000000 in
theorem v_F_cooks (u : (Nat → Nat → Int32)) (a1 : Int32) (a2 : Int32) {r : Int32 × (Nat → Nat → Int32)} (hd : d_F_cooks u a1 a2 = some r) : Vd RX6 "cooks" cX6_cooks 7 (some .int) (rm 6) (ab_eq (some (.int r.1)) (h_F r.2)) 0 0 0 0 0 [(0, .ref 0), (1, .int a1), (2, .int a2)] [] (h_F u) := by
  unfold d_F_cooks at hd
  refine v_iload_n dX6_cooks_0 rfl ?_
  refine v_iconst dX6_cooks_1 ic_0 ?_
  refine v_bipush dX6_cooks_2 bp_20 ?_
  obtain ⟨zr1, zh2, hd⟩ := g_bind hd
  refine v_cS (dy := 0) (st := []) (st2 := [.int zr1]) (h2 := (h_F u)) [] dX6_cooks_4 mz_X6_54 (m_P_outside a1 (0 : Int32) (20 : Int32) zh2) rfl rfl rfl rfl rfl rfl (by decide) (by decide) rfl rfl rfl ?_
  refine v_if_ne (tgt := 19) dX6_cooks_7 (by decide) (fun zc3 => ?_) (fun zc3 => ?_)
  · have hd := g_f hd zc3
    refine v_iconst dX6_cooks_19 ic_m1 ?_
    obtain rfl := Option.some.inj hd
    exact v_iretE dX6_cooks_20 rfl rfl rfl rfl
  · have hd := g_t hd zc3
    refine v_iload_n dX6_cooks_10 rfl ?_
    refine v_iconst dX6_cooks_11 ic_0 ?_
    refine v_iconst dX6_cooks_12 ic_1 ?_
    obtain ⟨zr4, zh5, hd⟩ := g_bind hd
    refine v_cS (dy := 0) (st := []) (st2 := [.int zr4]) (h2 := (h_F u)) [] dX6_cooks_13 mz_X6_54 (m_P_outside a2 (0 : Int32) (1 : Int32) zh5) rfl rfl rfl rfl rfl rfl (by decide) (by decide) rfl rfl rfl ?_
    refine v_if_eq (tgt := 21) dX6_cooks_16 (by decide) (fun zc6 => ?_) (fun zc6 => ?_)
    · have hd := g_t hd zc6
      refine v_bipush dX6_cooks_21 bp_6 ?_
      refine v_istore_n (i := 3) (L2 := [(3, .int (6 : Int32)), (0, .ref 0), (1, .int a1), (2, .int a2)]) dX6_cooks_23 rfl (Nat.le_of_ble_eq_true rfl) rfl ?_
      refine v_bipush dX6_cooks_24 bp_m4 ?_
      refine v_istore (i := 4) (L2 := [(4, .int (-4 : Int32)), (3, .int (6 : Int32)), (0, .ref 0), (1, .int a1), (2, .int a2)]) dX6_cooks_26 (Nat.le_of_ble_eq_true rfl) rfl ?_
      refine v_iconst dX6_cooks_28 ic_0 ?_
      refine v_istore (i := 5) (L2 := [(5, .int (0 : Int32)), (4, .int (-4 : Int32)), (3, .int (6 : Int32)), (0, .ref 0), (1, .int a1), (2, .int a2)]) dX6_cooks_29 (Nat.le_of_ble_eq_true rfl) rfl ?_
      refine v_loc [3, 4, 5, 2, 1, 0] rfl ?_
      exact v_F_cooks_31 FU u a1 a2 (6 : Int32) (-4 : Int32) (0 : Int32) hd
    · have hd := g_f hd zc6
      refine v_iconst dX6_cooks_19 ic_m1 ?_
      obtain rfl := Option.some.inj hd
      exact v_iretE dX6_cooks_20 rfl rfl rfl rfl
theorem m_F_cooks (u : (Nat → Nat → Int32)) (a1 : Int32) (a2 : Int32) {r : Int32 × (Nat → Nat → Int32)} (hd : d_F_cooks u a1 a2 = some r) : Mt yX6_cooks cX6_cooks 7 (some .int) (rm 6) [.ref 0, .int a1, .int a2] (h_F u) (ab_eq (some (.int r.1)) (h_F r.2)) := Mt.of (by decide +kernel) (fun _ _ _ => trivial) (Nat.le_of_ble_eq_true rfl) (v_F_cooks u a1 a2 hd)

def d_F_appease_62 (k25 : (Nat → Nat → Int32) → Int32 → Int32 → Int32 → Option (Int32 × (Nat → Nat → Int32))) (u : (Nat → Nat → Int32)) (x1 : Int32) (x2 : Int32) (x3 : Int32) : Option (Int32 × (Nat → Nat → Int32)) := (d_C_passNights (sh u 16) x2).bind fun zr13 => if gi x1 5 = true then if ((zr13 4) x1.toNatClampNeg) = 0 then (some (x3, (pt u 16 5 zr13))) else (dl (x3 + (1 : Int32)) fun zy17 => k25 (pt u 16 5 zr13) x1 x2 zy17) else none
set_option maxRecDepth 100000 in
set_option maxHeartbeats 4000000 in
theorem v_F_appease_62  {r : Int32 × (Nat → Nat → Int32)} (k25 : (Nat → Nat → Int32) → Int32 → Int32 → Int32 → Option (Int32 × (Nat → Nat → Int32))) (hk25 : ∀ (u : (Nat → Nat → Int32)) (x1 : Int32) (x2 : Int32) (x3 : Int32), k25 u x1 x2 x3 = some r → Vd RX6 "appease" cX6_appease 4 (some .int) (rm 5) (ab_eq (some (.int r.1)) (h_F r.2)) 0 0 0 0 25 [(0, .ref 0), (1, .int x1), (2, .int x2), (3, .int x3)] [] (h_F u)) (u : (Nat → Nat → Int32)) (x1 : Int32) (x2 : Int32) (x3 : Int32) (hd : d_F_appease_62 k25 u x1 x2 x3 = some r) : Vd RX6 "appease" cX6_appease 4 (some .int) (rm 5) (ab_eq (some (.int r.1)) (h_F r.2)) 0 0 0 0 62 [(0, .ref 0), (1, .int x1), (2, .int x2), (3, .int x3)] [] (h_F u) := by
  unfold d_F_appease_62 at hd
  refine v_aload_n dX6_appease_62 rfl ?_
  refine v_get (v := .ref 16) dX6_appease_63 fl_X6_23 rfl rfl ?_
  refine v_iload_n dX6_appease_66 rfl ?_
  obtain ⟨zr13, zh14, hd⟩ := g_bind hd
  refine v_cV (dy := 4) (st := []) (st2 := []) (h2 := (h_F (pt u 16 5 zr13))) [16, 17, 18, 19, 20] dX6_appease_67 mv_X6_145 (m_C_passNights (sh u 16) x2 zh14) rfl rfl rfl rfl rfl rfl rfl rfl (by decide) (by decide) rfl rfl rfl ?_
  refine v_aload_n dX6_appease_70 rfl ?_
  refine v_get (v := .ref 16) dX6_appease_71 fl_X6_23 rfl rfl ?_
  refine v_get (v := .ref 20) dX6_appease_74 fl_X6_180 rfl rfl ?_
  refine v_iload_n dX6_appease_77 rfl ?_
  obtain ⟨zg15, hd⟩ := g_b hd
  refine v_iald (f := (zr13 4)) dX6_appease_78 rfl (gi_in zg15) ?_
  refine v_if_ne (tgt := 84) dX6_appease_79 (by decide) (fun zc16 => ?_) (fun zc16 => ?_)
  · have hd := g_f hd zc16
    obtain ⟨zy17, ze18⟩ : ∃ z : Int32, z = (x3 + (1 : Int32)) := ⟨_, rfl⟩
    have hd := dl_n hd zy17 ze18
    refine v_iinc (v := zy17) (L2 := [(3, .int zy17), (0, .ref 0), (1, .int x1), (2, .int x2)]) dX6_appease_84 rfl (by rw [ic_1]; exact ze18.symm) (Nat.le_of_ble_eq_true rfl) rfl ?_
    refine v_goto (tgt := 25) dX6_appease_87 (by decide) ?_
    refine v_loc [1, 2, 3, 0] rfl ?_
    exact hk25 (pt u 16 5 zr13) x1 x2 zy17 hd
  · have hd := g_t hd zc16
    refine v_iload_n dX6_appease_82 rfl ?_
    obtain rfl := Option.some.inj hd
    exact v_iretE dX6_appease_83 rfl rfl rfl rfl

def d_F_appease_25  : Nat → (Nat → Nat → Int32) → Int32 → Int32 → Int32 → Option (Int32 × (Nat → Nat → Int32))
  | 0, _, _, _, _ => none
  | f + 1, u, x1, x2, x3 => if (20 : Int32) < x3 then (some ((-4 : Int32), u)) else (if gi x1 5 = true then if ((u 13) x1.toNatClampNeg) < x3 then (some ((-4 : Int32), u)) else ((d_F_startTrial u).bind fun zr10 => if x3 ≤ 0 then (d_F_appease_62 (d_F_appease_25 f) zr10 x1 x2 x3) else ((d_C_giveAhead (sh zr10 16) x1 x3).bind fun zr19 => d_F_appease_62 (d_F_appease_25 f) (pt zr10 16 5 zr19.2) x1 x2 x3)) else none)
set_option maxRecDepth 100000 in
set_option maxHeartbeats 4000000 in
theorem v_F_appease_25  {r : Int32 × (Nat → Nat → Int32)}  : ∀ (f : Nat) (u : (Nat → Nat → Int32)) (x1 : Int32) (x2 : Int32) (x3 : Int32), d_F_appease_25  f u x1 x2 x3 = some r → Vd RX6 "appease" cX6_appease 4 (some .int) (rm 5) (ab_eq (some (.int r.1)) (h_F r.2)) 0 0 0 0 25 [(0, .ref 0), (1, .int x1), (2, .int x2), (3, .int x3)] [] (h_F u) := by
  intro f
  induction f with
  | zero =>
    intro u x1 x2 x3 hd
    rw [d_F_appease_25] at hd
    cases hd
  | succ f ih =>
    intro u x1 x2 x3 hd
    rw [d_F_appease_25] at hd
    refine v_iload_n dX6_appease_25 rfl ?_
    refine v_bipush dX6_appease_26 bp_20 ?_
    refine v_icmp_gt (tgt := 90) dX6_appease_28 (by decide) (fun zc7 => ?_) (fun zc7 => ?_)
    · have hd := g_t hd zc7
      refine v_bipush dX6_appease_90 bp_m4 ?_
      obtain rfl := Option.some.inj hd
      exact v_iretE dX6_appease_92 rfl rfl rfl rfl
    · have hd := g_f hd zc7
      refine v_iload_n dX6_appease_31 rfl ?_
      refine v_aload_n dX6_appease_32 rfl ?_
      refine v_get (v := .ref 11) dX6_appease_33 fl_X6_19 rfl rfl ?_
      refine v_get (v := .ref 13) dX6_appease_36 fl_X6_135 rfl rfl ?_
      refine v_iload_n dX6_appease_39 rfl ?_
      obtain ⟨zg8, hd⟩ := g_b hd
      refine v_iald (f := (u 13)) dX6_appease_40 rfl (gi_in zg8) ?_
      refine v_icmp_gt (tgt := 90) dX6_appease_41 (by decide) (fun zc9 => ?_) (fun zc9 => ?_)
      · have hd := g_t hd zc9
        refine v_bipush dX6_appease_90 bp_m4 ?_
        obtain rfl := Option.some.inj hd
        exact v_iretE dX6_appease_92 rfl rfl rfl rfl
      · have hd := g_f hd zc9
        refine v_aload_n dX6_appease_44 rfl ?_
        obtain ⟨zr10, zh11, hd⟩ := g_bind hd
        refine v_cI (dy := 2) (st := []) (st2 := []) dX6_appease_45 mv_X6_149 (m_F_startTrial u zh11) rfl rfl rfl rfl rfl (by decide) (by decide) rfl rfl ?_
        refine v_iload_n dX6_appease_48 rfl ?_
        refine v_if_le (tgt := 62) dX6_appease_49 (by decide) (fun zc12 => ?_) (fun zc12 => ?_)
        · have hd := g_t hd zc12
          exact v_F_appease_62 (d_F_appease_25 f) (ih) zr10 x1 x2 x3 hd
        · have hd := g_f hd zc12
          refine v_aload_n dX6_appease_52 rfl ?_
          refine v_get (v := .ref 16) dX6_appease_53 fl_X6_23 rfl rfl ?_
          refine v_iload_n dX6_appease_56 rfl ?_
          refine v_iload_n dX6_appease_57 rfl ?_
          obtain ⟨zr19, zh20, hd⟩ := g_bind hd
          refine v_cV (dy := 2) (st := []) (st2 := [.int zr19.1]) (h2 := (h_F (pt zr10 16 5 zr19.2))) [16, 17, 18, 19, 20] dX6_appease_58 mv_X6_141 (m_C_giveAhead (sh zr10 16) x1 x3 zh20) rfl rfl rfl rfl rfl rfl rfl rfl (by decide) (by decide) rfl rfl rfl ?_
          refine v_pop dX6_appease_61 rfl ?_
          exact v_F_appease_62 (d_F_appease_25 f) (ih) (pt zr10 16 5 zr19.2) x1 x2 x3 hd
def d_F_appease (u : (Nat → Nat → Int32)) (a1 : Int32) (a2 : Int32) : Option (Int32 × (Nat → Nat → Int32)) := (d_C_has (sh u 11) a1).bind fun zr1 => if zr1 = 0 then (some ((-1 : Int32), u)) else ((d_P_outside a2 (0 : Int32) (20 : Int32)).bind fun zr4 => if zr4 = 0 then (d_F_appease_25 FU u a1 a2 (0 : Int32)) else (some ((-1 : Int32), u)))
set_option maxRecDepth 100000 in
set_option maxHeartbeats 4000000 in
theorem v_F_appease (u : (Nat → Nat → Int32)) (a1 : Int32) (a2 : Int32) {r : Int32 × (Nat → Nat → Int32)} (hd : d_F_appease u a1 a2 = some r) : Vd RX6 "appease" cX6_appease 4 (some .int) (rm 5) (ab_eq (some (.int r.1)) (h_F r.2)) 0 0 0 0 0 [(0, .ref 0), (1, .int a1), (2, .int a2)] [] (h_F u) := by
  unfold d_F_appease at hd
  refine v_aload_n dX6_appease_0 rfl ?_
  refine v_get (v := .ref 11) dX6_appease_1 fl_X6_19 rfl rfl ?_
  refine v_iload_n dX6_appease_4 rfl ?_
  obtain ⟨zr1, zh2, hd⟩ := g_bind hd
  refine v_cV (dy := 0) (st := []) (st2 := [.int zr1]) (h2 := (h_F u)) [11, 12, 13, 14, 15] dX6_appease_5 mv_X6_129 (m_C_has (sh u 11) a1 zh2) rfl rfl rfl rfl rfl rfl rfl rfl (by decide) (by decide) rfl rfl rfl ?_
  refine v_if_eq (tgt := 21) dX6_appease_8 (by decide) (fun zc3 => ?_) (fun zc3 => ?_)
  · have hd := g_t hd zc3
    refine v_iconst dX6_appease_21 ic_m1 ?_
    obtain rfl := Option.some.inj hd
    exact v_iretE dX6_appease_22 rfl rfl rfl rfl
  · have hd := g_f hd zc3
    refine v_iload_n dX6_appease_11 rfl ?_
    refine v_iconst dX6_appease_12 ic_0 ?_
    refine v_bipush dX6_appease_13 bp_20 ?_
    obtain ⟨zr4, zh5, hd⟩ := g_bind hd
    refine v_cS (dy := 0) (st := []) (st2 := [.int zr4]) (h2 := (h_F u)) [] dX6_appease_15 mz_X6_54 (m_P_outside a2 (0 : Int32) (20 : Int32) zh5) rfl rfl rfl rfl rfl rfl (by decide) (by decide) rfl rfl rfl ?_
    refine v_if_eq (tgt := 23) dX6_appease_18 (by decide) (fun zc6 => ?_) (fun zc6 => ?_)
    · have hd := g_t hd zc6
      refine v_iconst dX6_appease_23 ic_0 ?_
      refine v_istore_n (i := 3) (L2 := [(3, .int (0 : Int32)), (0, .ref 0), (1, .int a1), (2, .int a2)]) dX6_appease_24 rfl (Nat.le_of_ble_eq_true rfl) rfl ?_
      refine v_loc [1, 2, 3, 0] rfl ?_
      exact v_F_appease_25 FU u a1 a2 (0 : Int32) hd
    · have hd := g_f hd zc6
      refine v_iconst dX6_appease_21 ic_m1 ?_
      obtain rfl := Option.some.inj hd
      exact v_iretE dX6_appease_22 rfl rfl rfl rfl
theorem m_F_appease (u : (Nat → Nat → Int32)) (a1 : Int32) (a2 : Int32) {r : Int32 × (Nat → Nat → Int32)} (hd : d_F_appease u a1 a2 = some r) : Mt yX6_appease cX6_appease 4 (some .int) (rm 5) [.ref 0, .int a1, .int a2] (h_F u) (ab_eq (some (.int r.1)) (h_F r.2)) := Mt.of (by decide +kernel) (fun _ _ _ => trivial) (Nat.le_of_ble_eq_true rfl) (v_F_appease u a1 a2 hd)

def d_F_pray_76 (k23 : (Nat → Nat → Int32) → Int32 → Int32 → Int32 → Int32 → Option (Int32 × (Nat → Nat → Int32))) (u : (Nat → Nat → Int32)) (x1 : Int32) (x2 : Int32) (x3 : Int32) (x4 : Int32) : Option (Int32 × (Nat → Nat → Int32)) := dl (x4 + (1 : Int32)) fun zy16 => k23 u x1 x2 x3 zy16
set_option maxRecDepth 100000 in
set_option maxHeartbeats 4000000 in
theorem v_F_pray_76  {r : Int32 × (Nat → Nat → Int32)} (k23 : (Nat → Nat → Int32) → Int32 → Int32 → Int32 → Int32 → Option (Int32 × (Nat → Nat → Int32))) (hk23 : ∀ (u : (Nat → Nat → Int32)) (x1 : Int32) (x2 : Int32) (x3 : Int32) (x4 : Int32), k23 u x1 x2 x3 x4 = some r → Vd RX6 "pray" cX6_pray 5 (some .int) (rm 6) (ab_eq (some (.int r.1)) (h_F r.2)) 0 0 0 0 23 [(0, .ref 0), (1, .int x1), (2, .int x2), (3, .int x3), (4, .int x4)] [] (h_F u)) (u : (Nat → Nat → Int32)) (x1 : Int32) (x2 : Int32) (x3 : Int32) (x4 : Int32) (hd : d_F_pray_76 k23 u x1 x2 x3 x4 = some r) : Vd RX6 "pray" cX6_pray 5 (some .int) (rm 6) (ab_eq (some (.int r.1)) (h_F r.2)) 0 0 0 0 76 [(0, .ref 0), (1, .int x1), (2, .int x2), (3, .int x3), (4, .int x4)] [] (h_F u) := by
  unfold d_F_pray_76 at hd
  obtain ⟨zy16, ze17⟩ : ∃ z : Int32, z = (x4 + (1 : Int32)) := ⟨_, rfl⟩
  have hd := dl_n hd zy16 ze17
  refine v_iinc (v := zy16) (L2 := [(4, .int zy16), (0, .ref 0), (1, .int x1), (2, .int x2), (3, .int x3)]) dX6_pray_76 rfl (by rw [ic_1]; exact ze17.symm) (Nat.le_of_ble_eq_true rfl) rfl ?_
  refine v_goto (tgt := 23) dX6_pray_79 (by decide) ?_
  refine v_loc [1, 2, 3, 4, 0] rfl ?_
  exact hk23 u x1 x2 x3 zy16 hd

def d_F_pray_23  : Nat → (Nat → Nat → Int32) → Int32 → Int32 → Int32 → Int32 → Option (Int32 × (Nat → Nat → Int32))
  | 0, _, _, _, _, _ => none
  | f + 1, u, x1, x2, x3, x4 => if (7 : Int32) ≤ x4 then (some (x3, u)) else ((d_F_startTrial u).bind fun zr7 => dl ((zr7 16 8) ||| ((1 : Int32) <<< (x4 &&& 31))) fun zy9 => (d_C_passNights (sh (pw zr7 16 8 zy9) 16) x1).bind fun zr11 => (d_C_loss (sh (pt (pw zr7 16 8 zy9) 16 5 zr11) 16)).bind fun zr13 => if x2 ≤ zr13 then (d_F_pray_76 (d_F_pray_23 f) (pt (pw zr7 16 8 zy9) 16 5 zr11) x1 x2 x3 x4) else (dl (x3 ||| ((1 : Int32) <<< (x4 &&& 31))) fun zy18 => d_F_pray_76 (d_F_pray_23 f) (pt (pw zr7 16 8 zy9) 16 5 zr11) x1 x2 zy18 x4))
set_option maxRecDepth 100000 in
set_option maxHeartbeats 4000000 in
theorem v_F_pray_23  {r : Int32 × (Nat → Nat → Int32)}  : ∀ (f : Nat) (u : (Nat → Nat → Int32)) (x1 : Int32) (x2 : Int32) (x3 : Int32) (x4 : Int32), d_F_pray_23  f u x1 x2 x3 x4 = some r → Vd RX6 "pray" cX6_pray 5 (some .int) (rm 6) (ab_eq (some (.int r.1)) (h_F r.2)) 0 0 0 0 23 [(0, .ref 0), (1, .int x1), (2, .int x2), (3, .int x3), (4, .int x4)] [] (h_F u) := by
  intro f
  induction f with
  | zero =>
    intro u x1 x2 x3 x4 hd
    rw [d_F_pray_23] at hd
    cases hd
  | succ f ih =>
    intro u x1 x2 x3 x4 hd
    rw [d_F_pray_23] at hd
    refine v_iload dX6_pray_23 rfl ?_
    refine v_bipush dX6_pray_25 bp_7 ?_
    refine v_icmp_ge (tgt := 82) dX6_pray_27 (by decide) (fun zc6 => ?_) (fun zc6 => ?_)
    · have hd := g_t hd zc6
      refine v_iload_n dX6_pray_82 rfl ?_
      obtain rfl := Option.some.inj hd
      exact v_iretE dX6_pray_83 rfl rfl rfl rfl
    · have hd := g_f hd zc6
      refine v_aload_n dX6_pray_30 rfl ?_
      obtain ⟨zr7, zh8, hd⟩ := g_bind hd
      refine v_cI (dy := 2) (st := []) (st2 := []) dX6_pray_31 mv_X6_149 (m_F_startTrial u zh8) rfl rfl rfl rfl rfl (by decide) (by decide) rfl rfl ?_
      refine v_aload_n dX6_pray_34 rfl ?_
      refine v_get (v := .ref 16) dX6_pray_35 fl_X6_23 rfl rfl ?_
      refine v_dup dX6_pray_38 rfl ?_
      refine v_get (v := .int (zr7 16 8)) dX6_pray_39 fl_X6_113 rfl rfl ?_
      refine v_iconst dX6_pray_42 ic_1 ?_
      refine v_iload dX6_pray_43 rfl ?_
      refine v_ishl dX6_pray_45 ?_
      refine v_ior dX6_pray_46 ?_
      refine v_topi (fun zy9 ze10 => ?_)
      have hd := dl_n hd zy9 ze10
      refine v_pti (h2 := (h_F (pw zr7 16 8 zy9))) dX6_pray_47 fl_X6_113 rfl (Nat.le_of_ble_eq_true rfl) rfl ?_
      refine v_aload_n dX6_pray_50 rfl ?_
      refine v_get (v := .ref 16) dX6_pray_51 fl_X6_23 rfl rfl ?_
      refine v_iload_n dX6_pray_54 rfl ?_
      obtain ⟨zr11, zh12, hd⟩ := g_bind hd
      refine v_cV (dy := 4) (st := []) (st2 := []) (h2 := (h_F (pt (pw zr7 16 8 zy9) 16 5 zr11))) [16, 17, 18, 19, 20] dX6_pray_55 mv_X6_145 (m_C_passNights (sh (pw zr7 16 8 zy9) 16) x1 zh12) rfl rfl rfl rfl rfl rfl rfl rfl (by decide) (by decide) rfl rfl rfl ?_
      refine v_aload_n dX6_pray_58 rfl ?_
      refine v_get (v := .ref 16) dX6_pray_59 fl_X6_23 rfl rfl ?_
      obtain ⟨zr13, zh14, hd⟩ := g_bind hd
      refine v_cV (dy := 0) (st := []) (st2 := [.int zr13]) (h2 := (h_F (pt (pw zr7 16 8 zy9) 16 5 zr11))) [16, 17, 18, 19, 20] dX6_pray_62 mv_X6_172 (m_C_loss (sh (pt (pw zr7 16 8 zy9) 16 5 zr11) 16) zh14) rfl rfl rfl rfl rfl rfl rfl rfl (by decide) (by decide) rfl rfl rfl ?_
      refine v_iload_n dX6_pray_65 rfl ?_
      refine v_icmp_ge (tgt := 76) dX6_pray_66 (by decide) (fun zc15 => ?_) (fun zc15 => ?_)
      · have hd := g_t hd zc15
        exact v_F_pray_76 (d_F_pray_23 f) (ih) (pt (pw zr7 16 8 zy9) 16 5 zr11) x1 x2 x3 x4 hd
      · have hd := g_f hd zc15
        refine v_iload_n dX6_pray_69 rfl ?_
        refine v_iconst dX6_pray_70 ic_1 ?_
        refine v_iload dX6_pray_71 rfl ?_
        refine v_ishl dX6_pray_73 ?_
        refine v_ior dX6_pray_74 ?_
        refine v_topi (fun zy18 ze19 => ?_)
        have hd := dl_n hd zy18 ze19
        refine v_istore_n (i := 3) (L2 := [(3, .int zy18), (0, .ref 0), (1, .int x1), (2, .int x2), (4, .int x4)]) dX6_pray_75 rfl (Nat.le_of_ble_eq_true rfl) rfl ?_
        refine v_loc [1, 2, 3, 0, 4] rfl ?_
        exact v_F_pray_76 (d_F_pray_23 f) (ih) (pt (pw zr7 16 8 zy9) 16 5 zr11) x1 x2 zy18 x4 hd
def d_F_pray (u : (Nat → Nat → Int32)) (a1 : Int32) : Option (Int32 × (Nat → Nat → Int32)) := (d_P_outside a1 (0 : Int32) (20 : Int32)).bind fun zr1 => if zr1 = 0 then ((d_F_lossAsItIs u a1).bind fun zr4 => d_F_pray_23 FU zr4.2 a1 zr4.1 (0 : Int32) (0 : Int32)) else (some ((-1 : Int32), u))
set_option maxRecDepth 100000 in
set_option maxHeartbeats 4000000 in
theorem v_F_pray (u : (Nat → Nat → Int32)) (a1 : Int32) {r : Int32 × (Nat → Nat → Int32)} (hd : d_F_pray u a1 = some r) : Vd RX6 "pray" cX6_pray 5 (some .int) (rm 6) (ab_eq (some (.int r.1)) (h_F r.2)) 0 0 0 0 0 [(0, .ref 0), (1, .int a1)] [] (h_F u) := by
  unfold d_F_pray at hd
  refine v_iload_n dX6_pray_0 rfl ?_
  refine v_iconst dX6_pray_1 ic_0 ?_
  refine v_bipush dX6_pray_2 bp_20 ?_
  obtain ⟨zr1, zh2, hd⟩ := g_bind hd
  refine v_cS (dy := 0) (st := []) (st2 := [.int zr1]) (h2 := (h_F u)) [] dX6_pray_4 mz_X6_54 (m_P_outside a1 (0 : Int32) (20 : Int32) zh2) rfl rfl rfl rfl rfl rfl (by decide) (by decide) rfl rfl rfl ?_
  refine v_if_eq (tgt := 12) dX6_pray_7 (by decide) (fun zc3 => ?_) (fun zc3 => ?_)
  · have hd := g_t hd zc3
    refine v_aload_n dX6_pray_12 rfl ?_
    refine v_iload_n dX6_pray_13 rfl ?_
    obtain ⟨zr4, zh5, hd⟩ := g_bind hd
    refine v_cI (dy := 5) (st := []) (st2 := [.int zr4.1]) dX6_pray_14 mv_X6_164 (m_F_lossAsItIs u a1 zh5) rfl rfl rfl rfl rfl (by decide) (by decide) rfl rfl ?_
    refine v_istore_n (i := 2) (L2 := [(2, .int zr4.1), (0, .ref 0), (1, .int a1)]) dX6_pray_17 rfl (Nat.le_of_ble_eq_true rfl) rfl ?_
    refine v_iconst dX6_pray_18 ic_0 ?_
    refine v_istore_n (i := 3) (L2 := [(3, .int (0 : Int32)), (2, .int zr4.1), (0, .ref 0), (1, .int a1)]) dX6_pray_19 rfl (Nat.le_of_ble_eq_true rfl) rfl ?_
    refine v_iconst dX6_pray_20 ic_0 ?_
    refine v_istore (i := 4) (L2 := [(4, .int (0 : Int32)), (3, .int (0 : Int32)), (2, .int zr4.1), (0, .ref 0), (1, .int a1)]) dX6_pray_21 (Nat.le_of_ble_eq_true rfl) rfl ?_
    refine v_loc [3, 4, 2, 1, 0] rfl ?_
    exact v_F_pray_23 FU zr4.2 a1 zr4.1 (0 : Int32) (0 : Int32) hd
  · have hd := g_f hd zc3
    refine v_iconst dX6_pray_10 ic_m1 ?_
    obtain rfl := Option.some.inj hd
    exact v_iretE dX6_pray_11 rfl rfl rfl rfl
theorem m_F_pray (u : (Nat → Nat → Int32)) (a1 : Int32) {r : Int32 × (Nat → Nat → Int32)} (hd : d_F_pray u a1 = some r) : Mt yX6_pray cX6_pray 5 (some .int) (rm 6) [.ref 0, .int a1] (h_F u) (ab_eq (some (.int r.1)) (h_F r.2)) := Mt.of (by decide +kernel) (fun _ _ _ => trivial) (Nat.le_of_ble_eq_true rfl) (v_F_pray u a1 hd)
def d_F_value (u : (Nat → Nat → Int32)) (a1 : Int32) (a2 : Int32) : Option (Int32 × (Nat → Nat → Int32)) := (d_P_outside a1 (0 : Int32) (((1 : Int32) <<< ((u 11 4) &&& 31)) - (1 : Int32))).bind fun zr1 => if zr1 = 0 then ((d_P_outside a2 (0 : Int32) (20 : Int32)).bind fun zr4 => if zr4 = 0 then ((d_F_lossAsItIs u a2).bind fun zr7 => (d_F_playWith zr7.2 a1 (3 : Int32) a2).bind fun zr9 => (d_C_loss (sh zr9 16)).bind fun zr11 => some ((((1000 : Int32) + zr7.1) - zr11), zr9)) else (some ((-1 : Int32), u))) else (some ((-1 : Int32), u))
set_option maxRecDepth 100000 in
set_option maxHeartbeats 4000000 in
theorem v_F_value (u : (Nat → Nat → Int32)) (a1 : Int32) (a2 : Int32) {r : Int32 × (Nat → Nat → Int32)} (hd : d_F_value u a1 a2 = some r) : Vd RX6 "value" cX6_value 3 (some .int) (rm 6) (ab_eq (some (.int r.1)) (h_F r.2)) 0 0 0 0 0 [(0, .ref 0), (1, .int a1), (2, .int a2)] [] (h_F u) := by
  unfold d_F_value at hd
  refine v_iload_n dX6_value_0 rfl ?_
  refine v_iconst dX6_value_1 ic_0 ?_
  refine v_iconst dX6_value_2 ic_1 ?_
  refine v_aload_n dX6_value_3 rfl ?_
  refine v_get (v := .ref 11) dX6_value_4 fl_X6_19 rfl rfl ?_
  refine v_get (v := .int (u 11 4)) dX6_value_7 fl_X6_101 rfl rfl ?_
  refine v_ishl dX6_value_10 ?_
  refine v_iconst dX6_value_11 ic_1 ?_
  refine v_isub dX6_value_12 ?_
  obtain ⟨zr1, zh2, hd⟩ := g_bind hd
  refine v_cS (dy := 0) (st := []) (st2 := [.int zr1]) (h2 := (h_F u)) [] dX6_value_13 mz_X6_54 (m_P_outside a1 (0 : Int32) (((1 : Int32) <<< ((u 11 4) &&& 31)) - (1 : Int32)) zh2) rfl rfl rfl rfl rfl rfl (by decide) (by decide) rfl rfl rfl ?_
  refine v_if_ne (tgt := 29) dX6_value_16 (by decide) (fun zc3 => ?_) (fun zc3 => ?_)
  · have hd := g_f hd zc3
    refine v_iconst dX6_value_29 ic_m1 ?_
    obtain rfl := Option.some.inj hd
    exact v_iretE dX6_value_30 rfl rfl rfl rfl
  · have hd := g_t hd zc3
    refine v_iload_n dX6_value_19 rfl ?_
    refine v_iconst dX6_value_20 ic_0 ?_
    refine v_bipush dX6_value_21 bp_20 ?_
    obtain ⟨zr4, zh5, hd⟩ := g_bind hd
    refine v_cS (dy := 0) (st := []) (st2 := [.int zr4]) (h2 := (h_F u)) [] dX6_value_23 mz_X6_54 (m_P_outside a2 (0 : Int32) (20 : Int32) zh5) rfl rfl rfl rfl rfl rfl (by decide) (by decide) rfl rfl rfl ?_
    refine v_if_eq (tgt := 31) dX6_value_26 (by decide) (fun zc6 => ?_) (fun zc6 => ?_)
    · have hd := g_t hd zc6
      refine v_sipush dX6_value_31 sp_1000 ?_
      refine v_aload_n dX6_value_34 rfl ?_
      refine v_iload_n dX6_value_35 rfl ?_
      obtain ⟨zr7, zh8, hd⟩ := g_bind hd
      refine v_cI (dy := 5) (st := [.int (1000 : Int32)]) (st2 := [.int zr7.1, .int (1000 : Int32)]) dX6_value_36 mv_X6_164 (m_F_lossAsItIs u a2 zh8) rfl rfl rfl rfl rfl (by decide) (by decide) rfl rfl ?_
      refine v_iadd dX6_value_39 ?_
      refine v_aload_n dX6_value_40 rfl ?_
      refine v_iload_n dX6_value_41 rfl ?_
      refine v_iconst dX6_value_42 ic_3 ?_
      refine v_iload_n dX6_value_43 rfl ?_
      obtain ⟨zr9, zh10, hd⟩ := g_bind hd
      refine v_cI (dy := 5) (st := [.int ((1000 : Int32) + zr7.1)]) (st2 := [.ref 16, .int ((1000 : Int32) + zr7.1)]) dX6_value_44 mv_X6_168 (m_F_playWith zr7.2 a1 (3 : Int32) a2 zh10) rfl rfl rfl rfl rfl (by decide) (by decide) rfl rfl ?_
      obtain ⟨zr11, zh12, hd⟩ := g_bind hd
      refine v_cV (dy := 0) (st := [.int ((1000 : Int32) + zr7.1)]) (st2 := [.int zr11, .int ((1000 : Int32) + zr7.1)]) (h2 := (h_F zr9)) [16, 17, 18, 19, 20] dX6_value_47 mv_X6_172 (m_C_loss (sh zr9 16) zh12) rfl rfl rfl rfl rfl rfl rfl rfl (by decide) (by decide) rfl rfl rfl ?_
      refine v_isub dX6_value_50 ?_
      obtain rfl := Option.some.inj hd
      exact v_iretE dX6_value_51 rfl rfl rfl rfl
    · have hd := g_f hd zc6
      refine v_iconst dX6_value_29 ic_m1 ?_
      obtain rfl := Option.some.inj hd
      exact v_iretE dX6_value_30 rfl rfl rfl rfl
theorem m_F_value (u : (Nat → Nat → Int32)) (a1 : Int32) (a2 : Int32) {r : Int32 × (Nat → Nat → Int32)} (hd : d_F_value u a1 a2 = some r) : Mt yX6_value cX6_value 3 (some .int) (rm 6) [.ref 0, .int a1, .int a2] (h_F u) (ab_eq (some (.int r.1)) (h_F r.2)) := Mt.of (by decide +kernel) (fun _ _ _ => trivial) (Nat.le_of_ble_eq_true rfl) (v_F_value u a1 a2 hd)

def d_F_share_133 (k40 : (Nat → Nat → Int32) → Int32 → Int32 → Int32 → Int64 → Int32 → Option (Int64 × (Nat → Nat → Int32))) (u : (Nat → Nat → Int32)) (x1 : Int32) (x2 : Int32) (x3 : Int32) (x4 : Int64) (x6 : Int32) : Option (Int64 × (Nat → Nat → Int32)) := dl (x6 + (1 : Int32)) fun zy16 => k40 u x1 x2 x3 x4 zy16
set_option maxRecDepth 100000 in
set_option maxHeartbeats 4000000 in
theorem v_F_share_133  {r : Int64 × (Nat → Nat → Int32)} (k40 : (Nat → Nat → Int32) → Int32 → Int32 → Int32 → Int64 → Int32 → Option (Int64 × (Nat → Nat → Int32))) (hk40 : ∀ (u : (Nat → Nat → Int32)) (x1 : Int32) (x2 : Int32) (x3 : Int32) (x4 : Int64) (x6 : Int32), k40 u x1 x2 x3 x4 x6 = some r → Vd RX6 "share" cX6_share 10 (some .long) (rm 6) (ab_eq (some (.long r.1)) (h_F r.2)) 0 0 0 0 40 [(0, .ref 0), (1, .int x1), (2, .int x2), (3, .int x3), (4, .long x4), (6, .int x6)] [] (h_F u)) (u : (Nat → Nat → Int32)) (x1 : Int32) (x2 : Int32) (x3 : Int32) (x4 : Int64) (x6 : Int32) (hd : d_F_share_133 k40 u x1 x2 x3 x4 x6 = some r) : Vd RX6 "share" cX6_share 10 (some .long) (rm 6) (ab_eq (some (.long r.1)) (h_F r.2)) 0 0 0 0 133 [(0, .ref 0), (1, .int x1), (2, .int x2), (3, .int x3), (4, .long x4), (6, .int x6)] [] (h_F u) := by
  unfold d_F_share_133 at hd
  obtain ⟨zy16, ze17⟩ : ∃ z : Int32, z = (x6 + (1 : Int32)) := ⟨_, rfl⟩
  have hd := dl_n hd zy16 ze17
  refine v_iinc (v := zy16) (L2 := [(6, .int zy16), (0, .ref 0), (1, .int x1), (2, .int x2), (3, .int x3), (4, .long x4)]) dX6_share_133 rfl (by rw [ic_1]; exact ze17.symm) (Nat.le_of_ble_eq_true rfl) rfl ?_
  refine v_goto (tgt := 40) dX6_share_136 (by decide) ?_
  refine v_loc [1, 2, 3, 4, 5, 0] rfl ?_
  exact hk40 u x1 x2 x3 x4 zy16 hd

def d_F_share_40  : Nat → (Nat → Nat → Int32) → Int32 → Int32 → Int32 → Int64 → Int32 → Option (Int64 × (Nat → Nat → Int32))
  | 0, _, _, _, _, _, _ => none
  | f + 1, u, x1, x2, x3, x4, x6 => if ((1 : Int32) <<< ((u 11 4) &&& 31)) ≤ x6 then ((d_P_factorial (u 11 4)).bind fun zr11 => (d_P_partOfFraction x4 zr11 x3).bind fun zr13 => some (zr13, u)) else (if ((x6 >>> (x1 &&& 31)) &&& (1 : Int32)) = 0 then ((d_P_bitCount x6).bind fun zr18 => dl (((u 11 4) - (1 : Int32)) - zr18) fun zy20 => (d_F_playWith u x6 (3 : Int32) x2).bind fun zr22 => (d_C_loss (sh zr22 16)).bind fun zr24 => (d_F_playWith zr22 (x6 ||| ((1 : Int32) <<< (x1 &&& 31))) (3 : Int32) x2).bind fun zr26 => (d_C_loss (sh zr26 16)).bind fun zr28 => dl (zr24 - zr28) fun zy30 => (d_P_factorial zr18).bind fun zr32 => (d_P_factorial zy20).bind fun zr34 => dl (x4 + ((zy30.toInt64 * zr32) * zr34)) fun zy36 => d_F_share_133 (d_F_share_40 f) zr26 x1 x2 x3 zy36 x6) else (d_F_share_133 (d_F_share_40 f) u x1 x2 x3 x4 x6))
set_option maxRecDepth 100000 in
set_option maxHeartbeats 4000000 in
theorem v_F_share_40  {r : Int64 × (Nat → Nat → Int32)}  : ∀ (f : Nat) (u : (Nat → Nat → Int32)) (x1 : Int32) (x2 : Int32) (x3 : Int32) (x4 : Int64) (x6 : Int32), d_F_share_40  f u x1 x2 x3 x4 x6 = some r → Vd RX6 "share" cX6_share 10 (some .long) (rm 6) (ab_eq (some (.long r.1)) (h_F r.2)) 0 0 0 0 40 [(0, .ref 0), (1, .int x1), (2, .int x2), (3, .int x3), (4, .long x4), (6, .int x6)] [] (h_F u) := by
  intro f
  induction f with
  | zero =>
    intro u x1 x2 x3 x4 x6 hd
    rw [d_F_share_40] at hd
    cases hd
  | succ f ih =>
    intro u x1 x2 x3 x4 x6 hd
    rw [d_F_share_40] at hd
    refine v_iload dX6_share_40 rfl ?_
    refine v_iconst dX6_share_42 ic_1 ?_
    refine v_aload_n dX6_share_43 rfl ?_
    refine v_get (v := .ref 11) dX6_share_44 fl_X6_19 rfl rfl ?_
    refine v_get (v := .int (u 11 4)) dX6_share_47 fl_X6_101 rfl rfl ?_
    refine v_ishl dX6_share_50 ?_
    refine v_icmp_ge (tgt := 139) dX6_share_51 (by decide) (fun zc10 => ?_) (fun zc10 => ?_)
    · have hd := g_t hd zc10
      refine v_lload dX6_share_139 rfl ?_
      refine v_aload_n dX6_share_141 rfl ?_
      refine v_get (v := .ref 11) dX6_share_142 fl_X6_19 rfl rfl ?_
      refine v_get (v := .int (u 11 4)) dX6_share_145 fl_X6_101 rfl rfl ?_
      obtain ⟨zr11, zh12, hd⟩ := g_bind hd
      refine v_cS (dy := 1) (st := [.long x4]) (st2 := [.long zr11, .long x4]) (h2 := (h_F u)) [] dX6_share_148 mz_X6_185 (m_P_factorial (u 11 4) zh12) rfl rfl rfl rfl rfl rfl (by decide) (by decide) rfl rfl rfl ?_
      refine v_iload_n dX6_share_151 rfl ?_
      obtain ⟨zr13, zh14, hd⟩ := g_bind hd
      refine v_cS (dy := 1) (st := []) (st2 := [.long zr13]) (h2 := (h_F u)) [] dX6_share_152 mz_X6_189 (m_P_partOfFraction x4 zr11 x3 zh14) rfl rfl rfl rfl rfl rfl (by decide) (by decide) rfl rfl rfl ?_
      obtain rfl := Option.some.inj hd
      exact v_lretE dX6_share_155 rfl rfl rfl
    · have hd := g_f hd zc10
      refine v_iload dX6_share_54 rfl ?_
      refine v_iload_n dX6_share_56 rfl ?_
      refine v_ishr dX6_share_57 ?_
      refine v_iconst dX6_share_58 ic_1 ?_
      refine v_iand dX6_share_59 ?_
      refine v_if_ne (tgt := 133) dX6_share_60 (by decide) (fun zc15 => ?_) (fun zc15 => ?_)
      · have hd := g_f hd zc15
        exact v_F_share_133 (d_F_share_40 f) (ih) u x1 x2 x3 x4 x6 hd
      · have hd := g_t hd zc15
        refine v_iload dX6_share_63 rfl ?_
        obtain ⟨zr18, zh19, hd⟩ := g_bind hd
        refine v_cS (dy := 0) (st := []) (st2 := [.int zr18]) (h2 := (h_F u)) [] dX6_share_65 mz_X6_175 (m_P_bitCount x6 zh19) rfl rfl rfl rfl rfl rfl (by decide) (by decide) rfl rfl rfl ?_
        refine v_istore (i := 7) (L2 := [(7, .int zr18), (0, .ref 0), (1, .int x1), (2, .int x2), (3, .int x3), (4, .long x4), (6, .int x6)]) dX6_share_68 (Nat.le_of_ble_eq_true rfl) rfl ?_
        refine v_aload_n dX6_share_70 rfl ?_
        refine v_get (v := .ref 11) dX6_share_71 fl_X6_19 rfl rfl ?_
        refine v_get (v := .int (u 11 4)) dX6_share_74 fl_X6_101 rfl rfl ?_
        refine v_iconst dX6_share_77 ic_1 ?_
        refine v_isub dX6_share_78 ?_
        refine v_iload dX6_share_79 rfl ?_
        refine v_isub dX6_share_81 ?_
        refine v_topi (fun zy20 ze21 => ?_)
        have hd := dl_n hd zy20 ze21
        refine v_istore (i := 8) (L2 := [(8, .int zy20), (7, .int zr18), (0, .ref 0), (1, .int x1), (2, .int x2), (3, .int x3), (4, .long x4), (6, .int x6)]) dX6_share_82 (Nat.le_of_ble_eq_true rfl) rfl ?_
        refine v_aload_n dX6_share_84 rfl ?_
        refine v_iload dX6_share_85 rfl ?_
        refine v_iconst dX6_share_87 ic_3 ?_
        refine v_iload_n dX6_share_88 rfl ?_
        obtain ⟨zr22, zh23, hd⟩ := g_bind hd
        refine v_cI (dy := 5) (st := []) (st2 := [.ref 16]) dX6_share_89 mv_X6_168 (m_F_playWith u x6 (3 : Int32) x2 zh23) rfl rfl rfl rfl rfl (by decide) (by decide) rfl rfl ?_
        obtain ⟨zr24, zh25, hd⟩ := g_bind hd
        refine v_cV (dy := 0) (st := []) (st2 := [.int zr24]) (h2 := (h_F zr22)) [16, 17, 18, 19, 20] dX6_share_92 mv_X6_172 (m_C_loss (sh zr22 16) zh25) rfl rfl rfl rfl rfl rfl rfl rfl (by decide) (by decide) rfl rfl rfl ?_
        refine v_aload_n dX6_share_95 rfl ?_
        refine v_iload dX6_share_96 rfl ?_
        refine v_iconst dX6_share_98 ic_1 ?_
        refine v_iload_n dX6_share_99 rfl ?_
        refine v_ishl dX6_share_100 ?_
        refine v_ior dX6_share_101 ?_
        refine v_iconst dX6_share_102 ic_3 ?_
        refine v_iload_n dX6_share_103 rfl ?_
        obtain ⟨zr26, zh27, hd⟩ := g_bind hd
        refine v_cI (dy := 5) (st := [.int zr24]) (st2 := [.ref 16, .int zr24]) dX6_share_104 mv_X6_168 (m_F_playWith zr22 (x6 ||| ((1 : Int32) <<< (x1 &&& 31))) (3 : Int32) x2 zh27) rfl rfl rfl rfl rfl (by decide) (by decide) rfl rfl ?_
        obtain ⟨zr28, zh29, hd⟩ := g_bind hd
        refine v_cV (dy := 0) (st := [.int zr24]) (st2 := [.int zr28, .int zr24]) (h2 := (h_F zr26)) [16, 17, 18, 19, 20] dX6_share_107 mv_X6_172 (m_C_loss (sh zr26 16) zh29) rfl rfl rfl rfl rfl rfl rfl rfl (by decide) (by decide) rfl rfl rfl ?_
        refine v_isub dX6_share_110 ?_
        refine v_topi (fun zy30 ze31 => ?_)
        have hd := dl_n hd zy30 ze31
        refine v_istore (i := 9) (L2 := [(9, .int zy30), (8, .int zy20), (7, .int zr18), (0, .ref 0), (1, .int x1), (2, .int x2), (3, .int x3), (4, .long x4), (6, .int x6)]) dX6_share_111 (Nat.le_of_ble_eq_true rfl) rfl ?_
        refine v_lload dX6_share_113 rfl ?_
        refine v_iload dX6_share_115 rfl ?_
        refine v_i2l dX6_share_117 ?_
        refine v_iload dX6_share_118 rfl ?_
        obtain ⟨zr32, zh33, hd⟩ := g_bind hd
        refine v_cS (dy := 1) (st := [.long zy30.toInt64, .long x4]) (st2 := [.long zr32, .long zy30.toInt64, .long x4]) (h2 := (h_F zr26)) [] dX6_share_120 mz_X6_185 (m_P_factorial zr18 zh33) rfl rfl rfl rfl rfl rfl (by decide) (by decide) rfl rfl rfl ?_
        refine v_lmul dX6_share_123 ?_
        refine v_iload dX6_share_124 rfl ?_
        obtain ⟨zr34, zh35, hd⟩ := g_bind hd
        refine v_cS (dy := 1) (st := [.long (zy30.toInt64 * zr32), .long x4]) (st2 := [.long zr34, .long (zy30.toInt64 * zr32), .long x4]) (h2 := (h_F zr26)) [] dX6_share_126 mz_X6_185 (m_P_factorial zy20 zh35) rfl rfl rfl rfl rfl rfl (by decide) (by decide) rfl rfl rfl ?_
        refine v_lmul dX6_share_129 ?_
        refine v_ladd dX6_share_130 ?_
        refine v_topl (fun zy36 ze37 => ?_)
        have hd := dl_n hd zy36 ze37
        refine v_lstore (i := 4) (L2 := [(4, .long zy36), (9, .int zy30), (8, .int zy20), (7, .int zr18), (0, .ref 0), (1, .int x1), (2, .int x2), (3, .int x3), (6, .int x6)]) dX6_share_131 (Nat.le_of_ble_eq_true rfl) rfl ?_
        refine v_loc [4, 5, 6, 7, 0, 8] rfl ?_
        exact v_F_share_133 (d_F_share_40 f) (ih) zr26 x1 x2 x3 zy36 x6 hd
def d_F_share (u : (Nat → Nat → Int32)) (a1 : Int32) (a2 : Int32) (a3 : Int32) : Option (Int64 × (Nat → Nat → Int32)) := (d_C_has (sh u 11) a1).bind fun zr1 => if zr1 = 0 then (some ((-1 : Int64), u)) else ((d_P_outside a2 (0 : Int32) (20 : Int32)).bind fun zr4 => if zr4 = 0 then ((d_P_outside a3 (0 : Int32) (1 : Int32)).bind fun zr7 => if zr7 = 0 then (d_F_share_40 FU u a1 a2 a3 (0 : Int64) (0 : Int32)) else (some ((-1 : Int64), u))) else (some ((-1 : Int64), u)))
set_option maxRecDepth 100000 in
set_option maxHeartbeats 4000000 in
theorem v_F_share (u : (Nat → Nat → Int32)) (a1 : Int32) (a2 : Int32) (a3 : Int32) {r : Int64 × (Nat → Nat → Int32)} (hd : d_F_share u a1 a2 a3 = some r) : Vd RX6 "share" cX6_share 10 (some .long) (rm 6) (ab_eq (some (.long r.1)) (h_F r.2)) 0 0 0 0 0 [(0, .ref 0), (1, .int a1), (2, .int a2), (3, .int a3)] [] (h_F u) := by
  unfold d_F_share at hd
  refine v_aload_n dX6_share_0 rfl ?_
  refine v_get (v := .ref 11) dX6_share_1 fl_X6_19 rfl rfl ?_
  refine v_iload_n dX6_share_4 rfl ?_
  obtain ⟨zr1, zh2, hd⟩ := g_bind hd
  refine v_cV (dy := 0) (st := []) (st2 := [.int zr1]) (h2 := (h_F u)) [11, 12, 13, 14, 15] dX6_share_5 mv_X6_129 (m_C_has (sh u 11) a1 zh2) rfl rfl rfl rfl rfl rfl rfl rfl (by decide) (by decide) rfl rfl rfl ?_
  refine v_if_eq (tgt := 30) dX6_share_8 (by decide) (fun zc3 => ?_) (fun zc3 => ?_)
  · have hd := g_t hd zc3
    refine v_ldc2 dX6_share_30 kc_X6_183 ?_
    obtain rfl := Option.some.inj hd
    exact v_lretE dX6_share_33 rfl rfl rfl
  · have hd := g_f hd zc3
    refine v_iload_n dX6_share_11 rfl ?_
    refine v_iconst dX6_share_12 ic_0 ?_
    refine v_bipush dX6_share_13 bp_20 ?_
    obtain ⟨zr4, zh5, hd⟩ := g_bind hd
    refine v_cS (dy := 0) (st := []) (st2 := [.int zr4]) (h2 := (h_F u)) [] dX6_share_15 mz_X6_54 (m_P_outside a2 (0 : Int32) (20 : Int32) zh5) rfl rfl rfl rfl rfl rfl (by decide) (by decide) rfl rfl rfl ?_
    refine v_if_ne (tgt := 30) dX6_share_18 (by decide) (fun zc6 => ?_) (fun zc6 => ?_)
    · have hd := g_f hd zc6
      refine v_ldc2 dX6_share_30 kc_X6_183 ?_
      obtain rfl := Option.some.inj hd
      exact v_lretE dX6_share_33 rfl rfl rfl
    · have hd := g_t hd zc6
      refine v_iload_n dX6_share_21 rfl ?_
      refine v_iconst dX6_share_22 ic_0 ?_
      refine v_iconst dX6_share_23 ic_1 ?_
      obtain ⟨zr7, zh8, hd⟩ := g_bind hd
      refine v_cS (dy := 0) (st := []) (st2 := [.int zr7]) (h2 := (h_F u)) [] dX6_share_24 mz_X6_54 (m_P_outside a3 (0 : Int32) (1 : Int32) zh8) rfl rfl rfl rfl rfl rfl (by decide) (by decide) rfl rfl rfl ?_
      refine v_if_eq (tgt := 34) dX6_share_27 (by decide) (fun zc9 => ?_) (fun zc9 => ?_)
      · have hd := g_t hd zc9
        refine v_lconst (v := 0) dX6_share_34 rfl ?_
        refine v_lstore (i := 4) (L2 := [(4, .long (0 : Int64)), (0, .ref 0), (1, .int a1), (2, .int a2), (3, .int a3)]) dX6_share_35 (Nat.le_of_ble_eq_true rfl) rfl ?_
        refine v_iconst dX6_share_37 ic_0 ?_
        refine v_istore (i := 6) (L2 := [(6, .int (0 : Int32)), (4, .long (0 : Int64)), (0, .ref 0), (1, .int a1), (2, .int a2), (3, .int a3)]) dX6_share_38 (Nat.le_of_ble_eq_true rfl) rfl ?_
        refine v_loc [2, 3, 4, 5, 1, 0] rfl ?_
        exact v_F_share_40 FU u a1 a2 a3 (0 : Int64) (0 : Int32) hd
      · have hd := g_f hd zc9
        refine v_ldc2 dX6_share_30 kc_X6_183 ?_
        obtain rfl := Option.some.inj hd
        exact v_lretE dX6_share_33 rfl rfl rfl
theorem m_F_share (u : (Nat → Nat → Int32)) (a1 : Int32) (a2 : Int32) (a3 : Int32) {r : Int64 × (Nat → Nat → Int32)} (hd : d_F_share u a1 a2 a3 = some r) : Mt yX6_share cX6_share 10 (some .long) (rm 6) [.ref 0, .int a1, .int a2, .int a3] (h_F u) (ab_eq (some (.long r.1)) (h_F r.2)) := Mt.of (by decide +kernel) (fun _ _ _ => trivial) (Nat.le_of_ble_eq_true rfl) (v_F_share u a1 a2 a3 hd)
def d_F_oddsOfOut (u : (Nat → Nat → Int32)) (a1 : Int32) (a2 : Int32) : Option Int64 := (d_P_bitCount a1).bind fun zr1 => (d_P_power a2 zr1).bind fun zr3 => (d_P_power ((10 : Int32) - a2) ((u 11 4) - zr1)).bind fun zr5 => some (zr3 * zr5)
set_option maxRecDepth 100000 in
set_option maxHeartbeats 4000000 in
theorem v_F_oddsOfOut (u : (Nat → Nat → Int32)) (a1 : Int32) (a2 : Int32) {r : Int64} (hd : d_F_oddsOfOut u a1 a2 = some r) : Vd RX6 "oddsOfOut" cX6_oddsOfOut 4 (some .long) (rm 1) (ab_eq (some (.long r)) (h_F u)) 0 0 0 0 0 [(0, .ref 0), (1, .int a1), (2, .int a2)] [] (h_F u) := by
  unfold d_F_oddsOfOut at hd
  refine v_iload_n dX6_oddsOfOut_0 rfl ?_
  obtain ⟨zr1, zh2, hd⟩ := g_bind hd
  refine v_cS (dy := 0) (st := []) (st2 := [.int zr1]) (h2 := (h_F u)) [] dX6_oddsOfOut_1 mz_X6_175 (m_P_bitCount a1 zh2) rfl rfl rfl rfl rfl rfl (by decide) (by decide) rfl rfl rfl ?_
  refine v_istore_n (i := 3) (L2 := [(3, .int zr1), (0, .ref 0), (1, .int a1), (2, .int a2)]) dX6_oddsOfOut_4 rfl (Nat.le_of_ble_eq_true rfl) rfl ?_
  refine v_iload_n dX6_oddsOfOut_5 rfl ?_
  refine v_iload_n dX6_oddsOfOut_6 rfl ?_
  obtain ⟨zr3, zh4, hd⟩ := g_bind hd
  refine v_cS (dy := 0) (st := []) (st2 := [.long zr3]) (h2 := (h_F u)) [] dX6_oddsOfOut_7 mz_X6_197 (m_P_power a2 zr1 zh4) rfl rfl rfl rfl rfl rfl (by decide) (by decide) rfl rfl rfl ?_
  refine v_bipush dX6_oddsOfOut_10 bp_10 ?_
  refine v_iload_n dX6_oddsOfOut_12 rfl ?_
  refine v_isub dX6_oddsOfOut_13 ?_
  refine v_aload_n dX6_oddsOfOut_14 rfl ?_
  refine v_get (v := .ref 11) dX6_oddsOfOut_15 fl_X6_19 rfl rfl ?_
  refine v_get (v := .int (u 11 4)) dX6_oddsOfOut_18 fl_X6_101 rfl rfl ?_
  refine v_iload_n dX6_oddsOfOut_21 rfl ?_
  refine v_isub dX6_oddsOfOut_22 ?_
  obtain ⟨zr5, zh6, hd⟩ := g_bind hd
  refine v_cS (dy := 0) (st := [.long zr3]) (st2 := [.long zr5, .long zr3]) (h2 := (h_F u)) [] dX6_oddsOfOut_23 mz_X6_197 (m_P_power ((10 : Int32) - a2) ((u 11 4) - zr1) zh6) rfl rfl rfl rfl rfl rfl (by decide) (by decide) rfl rfl rfl ?_
  refine v_lmul dX6_oddsOfOut_26 ?_
  obtain rfl := Option.some.inj hd
  exact v_lretE dX6_oddsOfOut_27 rfl rfl rfl
theorem m_F_oddsOfOut (u : (Nat → Nat → Int32)) (a1 : Int32) (a2 : Int32) {r : Int64} (hd : d_F_oddsOfOut u a1 a2 = some r) : Mt yX6_oddsOfOut cX6_oddsOfOut 4 (some .long) (rm 1) [.ref 0, .int a1, .int a2] (h_F u) (ab_eq (some (.long r)) (h_F u)) := Mt.of (by decide +kernel) (fun _ _ _ => trivial) (Nat.le_of_ble_eq_true rfl) (v_F_oddsOfOut u a1 a2 hd)

def d_F_luck_79 (k39 : (Nat → Nat → Int32) → Int32 → Int32 → Int32 → Int64 → Int32 → Option (Int64 × (Nat → Nat → Int32))) (u : (Nat → Nat → Int32)) (x1 : Int32) (x2 : Int32) (x3 : Int32) (x4 : Int64) (x6 : Int32) : Option (Int64 × (Nat → Nat → Int32)) := dl (x6 + (1 : Int32)) fun zy18 => k39 u x1 x2 x3 x4 zy18
set_option maxRecDepth 100000 in
set_option maxHeartbeats 4000000 in
theorem v_F_luck_79  {r : Int64 × (Nat → Nat → Int32)} (k39 : (Nat → Nat → Int32) → Int32 → Int32 → Int32 → Int64 → Int32 → Option (Int64 × (Nat → Nat → Int32))) (hk39 : ∀ (u : (Nat → Nat → Int32)) (x1 : Int32) (x2 : Int32) (x3 : Int32) (x4 : Int64) (x6 : Int32), k39 u x1 x2 x3 x4 x6 = some r → Vd RX6 "luck" cX6_luck 7 (some .long) (rm 6) (ab_eq (some (.long r.1)) (h_F r.2)) 0 0 0 0 39 [(0, .ref 0), (1, .int x1), (2, .int x2), (3, .int x3), (4, .long x4), (6, .int x6)] [] (h_F u)) (u : (Nat → Nat → Int32)) (x1 : Int32) (x2 : Int32) (x3 : Int32) (x4 : Int64) (x6 : Int32) (hd : d_F_luck_79 k39 u x1 x2 x3 x4 x6 = some r) : Vd RX6 "luck" cX6_luck 7 (some .long) (rm 6) (ab_eq (some (.long r.1)) (h_F r.2)) 0 0 0 0 79 [(0, .ref 0), (1, .int x1), (2, .int x2), (3, .int x3), (4, .long x4), (6, .int x6)] [] (h_F u) := by
  unfold d_F_luck_79 at hd
  obtain ⟨zy18, ze19⟩ : ∃ z : Int32, z = (x6 + (1 : Int32)) := ⟨_, rfl⟩
  have hd := dl_n hd zy18 ze19
  refine v_iinc (v := zy18) (L2 := [(6, .int zy18), (0, .ref 0), (1, .int x1), (2, .int x2), (3, .int x3), (4, .long x4)]) dX6_luck_79 rfl (by rw [ic_1]; exact ze19.symm) (Nat.le_of_ble_eq_true rfl) rfl ?_
  refine v_goto (tgt := 39) dX6_luck_82 (by decide) ?_
  refine v_loc [1, 2, 3, 4, 5, 0] rfl ?_
  exact hk39 u x1 x2 x3 x4 zy18 hd

def d_F_luck_39  : Nat → (Nat → Nat → Int32) → Int32 → Int32 → Int32 → Int64 → Int32 → Option (Int64 × (Nat → Nat → Int32))
  | 0, _, _, _, _, _, _ => none
  | f + 1, u, x1, x2, x3, x4, x6 => if ((1 : Int32) <<< ((u 11 4) &&& 31)) ≤ x6 then ((d_P_power (10 : Int32) (u 11 4)).bind fun zr11 => (d_P_partOfFraction x4 zr11 x3).bind fun zr13 => some (zr13, u)) else ((d_F_playWith u x6 (2 : Int32) x2).bind fun zr15 => if (zr15 16 10) = 0 then ((d_F_oddsOfOut zr15 x6 x1).bind fun zr20 => dl (x4 + zr20) fun zy22 => d_F_luck_79 (d_F_luck_39 f) zr15 x1 x2 x3 zy22 x6) else (d_F_luck_79 (d_F_luck_39 f) zr15 x1 x2 x3 x4 x6))
set_option maxRecDepth 100000 in
set_option maxHeartbeats 4000000 in
theorem v_F_luck_39  {r : Int64 × (Nat → Nat → Int32)}  : ∀ (f : Nat) (u : (Nat → Nat → Int32)) (x1 : Int32) (x2 : Int32) (x3 : Int32) (x4 : Int64) (x6 : Int32), d_F_luck_39  f u x1 x2 x3 x4 x6 = some r → Vd RX6 "luck" cX6_luck 7 (some .long) (rm 6) (ab_eq (some (.long r.1)) (h_F r.2)) 0 0 0 0 39 [(0, .ref 0), (1, .int x1), (2, .int x2), (3, .int x3), (4, .long x4), (6, .int x6)] [] (h_F u) := by
  intro f
  induction f with
  | zero =>
    intro u x1 x2 x3 x4 x6 hd
    rw [d_F_luck_39] at hd
    cases hd
  | succ f ih =>
    intro u x1 x2 x3 x4 x6 hd
    rw [d_F_luck_39] at hd
    refine v_iload dX6_luck_39 rfl ?_
    refine v_iconst dX6_luck_41 ic_1 ?_
    refine v_aload_n dX6_luck_42 rfl ?_
    refine v_get (v := .ref 11) dX6_luck_43 fl_X6_19 rfl rfl ?_
    refine v_get (v := .int (u 11 4)) dX6_luck_46 fl_X6_101 rfl rfl ?_
    refine v_ishl dX6_luck_49 ?_
    refine v_icmp_ge (tgt := 85) dX6_luck_50 (by decide) (fun zc10 => ?_) (fun zc10 => ?_)
    · have hd := g_t hd zc10
      refine v_lload dX6_luck_85 rfl ?_
      refine v_bipush dX6_luck_87 bp_10 ?_
      refine v_aload_n dX6_luck_89 rfl ?_
      refine v_get (v := .ref 11) dX6_luck_90 fl_X6_19 rfl rfl ?_
      refine v_get (v := .int (u 11 4)) dX6_luck_93 fl_X6_101 rfl rfl ?_
      obtain ⟨zr11, zh12, hd⟩ := g_bind hd
      refine v_cS (dy := 0) (st := [.long x4]) (st2 := [.long zr11, .long x4]) (h2 := (h_F u)) [] dX6_luck_96 mz_X6_197 (m_P_power (10 : Int32) (u 11 4) zh12) rfl rfl rfl rfl rfl rfl (by decide) (by decide) rfl rfl rfl ?_
      refine v_iload_n dX6_luck_99 rfl ?_
      obtain ⟨zr13, zh14, hd⟩ := g_bind hd
      refine v_cS (dy := 1) (st := []) (st2 := [.long zr13]) (h2 := (h_F u)) [] dX6_luck_100 mz_X6_189 (m_P_partOfFraction x4 zr11 x3 zh14) rfl rfl rfl rfl rfl rfl (by decide) (by decide) rfl rfl rfl ?_
      obtain rfl := Option.some.inj hd
      exact v_lretE dX6_luck_103 rfl rfl rfl
    · have hd := g_f hd zc10
      refine v_aload_n dX6_luck_53 rfl ?_
      refine v_iload dX6_luck_54 rfl ?_
      refine v_iconst dX6_luck_56 ic_2 ?_
      refine v_iload_n dX6_luck_57 rfl ?_
      obtain ⟨zr15, zh16, hd⟩ := g_bind hd
      refine v_cI (dy := 5) (st := []) (st2 := [.ref 16]) dX6_luck_58 mv_X6_168 (m_F_playWith u x6 (2 : Int32) x2 zh16) rfl rfl rfl rfl rfl (by decide) (by decide) rfl rfl ?_
      refine v_get (v := .int (zr15 16 10)) dX6_luck_61 fl_X6_119 rfl rfl ?_
      refine v_if_ne (tgt := 79) dX6_luck_64 (by decide) (fun zc17 => ?_) (fun zc17 => ?_)
      · have hd := g_f hd zc17
        exact v_F_luck_79 (d_F_luck_39 f) (ih) zr15 x1 x2 x3 x4 x6 hd
      · have hd := g_t hd zc17
        refine v_lload dX6_luck_67 rfl ?_
        refine v_aload_n dX6_luck_69 rfl ?_
        refine v_iload dX6_luck_70 rfl ?_
        refine v_iload_n dX6_luck_72 rfl ?_
        obtain ⟨zr20, zh21, hd⟩ := g_bind hd
        refine v_cI (dy := 1) (st := [.long x4]) (st2 := [.long zr20, .long x4]) dX6_luck_73 mv_X6_193 (m_F_oddsOfOut zr15 x6 x1 zh21) rfl rfl rfl rfl rfl (by decide) (by decide) rfl rfl ?_
        refine v_ladd dX6_luck_76 ?_
        refine v_topl (fun zy22 ze23 => ?_)
        have hd := dl_n hd zy22 ze23
        refine v_lstore (i := 4) (L2 := [(4, .long zy22), (0, .ref 0), (1, .int x1), (2, .int x2), (3, .int x3), (6, .int x6)]) dX6_luck_77 (Nat.le_of_ble_eq_true rfl) rfl ?_
        refine v_loc [1, 2, 3, 4, 0, 5] rfl ?_
        exact v_F_luck_79 (d_F_luck_39 f) (ih) zr15 x1 x2 x3 zy22 x6 hd
def d_F_luck (u : (Nat → Nat → Int32)) (a1 : Int32) (a2 : Int32) (a3 : Int32) : Option (Int64 × (Nat → Nat → Int32)) := (d_P_outside a1 (0 : Int32) (10 : Int32)).bind fun zr1 => if zr1 = 0 then ((d_P_outside a2 (0 : Int32) (20 : Int32)).bind fun zr4 => if zr4 = 0 then ((d_P_outside a3 (0 : Int32) (1 : Int32)).bind fun zr7 => if zr7 = 0 then (d_F_luck_39 FU u a1 a2 a3 (0 : Int64) (0 : Int32)) else (some ((-1 : Int64), u))) else (some ((-1 : Int64), u))) else (some ((-1 : Int64), u))
set_option maxRecDepth 100000 in
set_option maxHeartbeats 4000000 in
theorem v_F_luck (u : (Nat → Nat → Int32)) (a1 : Int32) (a2 : Int32) (a3 : Int32) {r : Int64 × (Nat → Nat → Int32)} (hd : d_F_luck u a1 a2 a3 = some r) : Vd RX6 "luck" cX6_luck 7 (some .long) (rm 6) (ab_eq (some (.long r.1)) (h_F r.2)) 0 0 0 0 0 [(0, .ref 0), (1, .int a1), (2, .int a2), (3, .int a3)] [] (h_F u) := by
  unfold d_F_luck at hd
  refine v_iload_n dX6_luck_0 rfl ?_
  refine v_iconst dX6_luck_1 ic_0 ?_
  refine v_bipush dX6_luck_2 bp_10 ?_
  obtain ⟨zr1, zh2, hd⟩ := g_bind hd
  refine v_cS (dy := 0) (st := []) (st2 := [.int zr1]) (h2 := (h_F u)) [] dX6_luck_4 mz_X6_54 (m_P_outside a1 (0 : Int32) (10 : Int32) zh2) rfl rfl rfl rfl rfl rfl (by decide) (by decide) rfl rfl rfl ?_
  refine v_if_ne (tgt := 29) dX6_luck_7 (by decide) (fun zc3 => ?_) (fun zc3 => ?_)
  · have hd := g_f hd zc3
    refine v_ldc2 dX6_luck_29 kc_X6_183 ?_
    obtain rfl := Option.some.inj hd
    exact v_lretE dX6_luck_32 rfl rfl rfl
  · have hd := g_t hd zc3
    refine v_iload_n dX6_luck_10 rfl ?_
    refine v_iconst dX6_luck_11 ic_0 ?_
    refine v_bipush dX6_luck_12 bp_20 ?_
    obtain ⟨zr4, zh5, hd⟩ := g_bind hd
    refine v_cS (dy := 0) (st := []) (st2 := [.int zr4]) (h2 := (h_F u)) [] dX6_luck_14 mz_X6_54 (m_P_outside a2 (0 : Int32) (20 : Int32) zh5) rfl rfl rfl rfl rfl rfl (by decide) (by decide) rfl rfl rfl ?_
    refine v_if_ne (tgt := 29) dX6_luck_17 (by decide) (fun zc6 => ?_) (fun zc6 => ?_)
    · have hd := g_f hd zc6
      refine v_ldc2 dX6_luck_29 kc_X6_183 ?_
      obtain rfl := Option.some.inj hd
      exact v_lretE dX6_luck_32 rfl rfl rfl
    · have hd := g_t hd zc6
      refine v_iload_n dX6_luck_20 rfl ?_
      refine v_iconst dX6_luck_21 ic_0 ?_
      refine v_iconst dX6_luck_22 ic_1 ?_
      obtain ⟨zr7, zh8, hd⟩ := g_bind hd
      refine v_cS (dy := 0) (st := []) (st2 := [.int zr7]) (h2 := (h_F u)) [] dX6_luck_23 mz_X6_54 (m_P_outside a3 (0 : Int32) (1 : Int32) zh8) rfl rfl rfl rfl rfl rfl (by decide) (by decide) rfl rfl rfl ?_
      refine v_if_eq (tgt := 33) dX6_luck_26 (by decide) (fun zc9 => ?_) (fun zc9 => ?_)
      · have hd := g_t hd zc9
        refine v_lconst (v := 0) dX6_luck_33 rfl ?_
        refine v_lstore (i := 4) (L2 := [(4, .long (0 : Int64)), (0, .ref 0), (1, .int a1), (2, .int a2), (3, .int a3)]) dX6_luck_34 (Nat.le_of_ble_eq_true rfl) rfl ?_
        refine v_iconst dX6_luck_36 ic_0 ?_
        refine v_istore (i := 6) (L2 := [(6, .int (0 : Int32)), (4, .long (0 : Int64)), (0, .ref 0), (1, .int a1), (2, .int a2), (3, .int a3)]) dX6_luck_37 (Nat.le_of_ble_eq_true rfl) rfl ?_
        refine v_loc [2, 3, 4, 5, 1, 0] rfl ?_
        exact v_F_luck_39 FU u a1 a2 a3 (0 : Int64) (0 : Int32) hd
      · have hd := g_f hd zc9
        refine v_ldc2 dX6_luck_29 kc_X6_183 ?_
        obtain rfl := Option.some.inj hd
        exact v_lretE dX6_luck_32 rfl rfl rfl
theorem m_F_luck (u : (Nat → Nat → Int32)) (a1 : Int32) (a2 : Int32) (a3 : Int32) {r : Int64 × (Nat → Nat → Int32)} (hd : d_F_luck u a1 a2 a3 = some r) : Mt yX6_luck cX6_luck 7 (some .long) (rm 6) [.ref 0, .int a1, .int a2, .int a3] (h_F u) (ab_eq (some (.long r.1)) (h_F r.2)) := Mt.of (by decide +kernel) (fun _ _ _ => trivial) (Nat.le_of_ble_eq_true rfl) (v_F_luck u a1 a2 a3 hd)

def d_F_mean_39  : Nat → (Nat → Nat → Int32) → Int32 → Int32 → Int32 → Int64 → Int32 → Option (Int64 × (Nat → Nat → Int32))
  | 0, _, _, _, _, _, _ => none
  | f + 1, u, x1, x2, x3, x4, x6 => if ((1 : Int32) <<< ((u 11 4) &&& 31)) ≤ x6 then ((d_P_power (10 : Int32) (u 11 4)).bind fun zr11 => (d_P_partOfFraction x4 zr11 x3).bind fun zr13 => some (zr13, u)) else ((d_F_oddsOfOut u x6 x1).bind fun zr15 => (d_F_playWith u x6 (2 : Int32) x2).bind fun zr17 => (d_C_loss (sh zr17 16)).bind fun zr19 => dl (x4 + (zr15 * zr19.toInt64)) fun zy21 => dl (x6 + (1 : Int32)) fun zy23 => d_F_mean_39 f zr17 x1 x2 x3 zy21 zy23)
set_option maxRecDepth 100000 in
set_option maxHeartbeats 4000000 in
theorem v_F_mean_39  {r : Int64 × (Nat → Nat → Int32)}  : ∀ (f : Nat) (u : (Nat → Nat → Int32)) (x1 : Int32) (x2 : Int32) (x3 : Int32) (x4 : Int64) (x6 : Int32), d_F_mean_39  f u x1 x2 x3 x4 x6 = some r → Vd RX6 "mean" cX6_mean 7 (some .long) (rm 6) (ab_eq (some (.long r.1)) (h_F r.2)) 0 0 0 0 39 [(0, .ref 0), (1, .int x1), (2, .int x2), (3, .int x3), (4, .long x4), (6, .int x6)] [] (h_F u) := by
  intro f
  induction f with
  | zero =>
    intro u x1 x2 x3 x4 x6 hd
    rw [d_F_mean_39] at hd
    cases hd
  | succ f ih =>
    intro u x1 x2 x3 x4 x6 hd
    rw [d_F_mean_39] at hd
    refine v_iload dX6_mean_39 rfl ?_
    refine v_iconst dX6_mean_41 ic_1 ?_
    refine v_aload_n dX6_mean_42 rfl ?_
    refine v_get (v := .ref 11) dX6_mean_43 fl_X6_19 rfl rfl ?_
    refine v_get (v := .int (u 11 4)) dX6_mean_46 fl_X6_101 rfl rfl ?_
    refine v_ishl dX6_mean_49 ?_
    refine v_icmp_ge (tgt := 84) dX6_mean_50 (by decide) (fun zc10 => ?_) (fun zc10 => ?_)
    · have hd := g_t hd zc10
      refine v_lload dX6_mean_84 rfl ?_
      refine v_bipush dX6_mean_86 bp_10 ?_
      refine v_aload_n dX6_mean_88 rfl ?_
      refine v_get (v := .ref 11) dX6_mean_89 fl_X6_19 rfl rfl ?_
      refine v_get (v := .int (u 11 4)) dX6_mean_92 fl_X6_101 rfl rfl ?_
      obtain ⟨zr11, zh12, hd⟩ := g_bind hd
      refine v_cS (dy := 0) (st := [.long x4]) (st2 := [.long zr11, .long x4]) (h2 := (h_F u)) [] dX6_mean_95 mz_X6_197 (m_P_power (10 : Int32) (u 11 4) zh12) rfl rfl rfl rfl rfl rfl (by decide) (by decide) rfl rfl rfl ?_
      refine v_iload_n dX6_mean_98 rfl ?_
      obtain ⟨zr13, zh14, hd⟩ := g_bind hd
      refine v_cS (dy := 1) (st := []) (st2 := [.long zr13]) (h2 := (h_F u)) [] dX6_mean_99 mz_X6_189 (m_P_partOfFraction x4 zr11 x3 zh14) rfl rfl rfl rfl rfl rfl (by decide) (by decide) rfl rfl rfl ?_
      obtain rfl := Option.some.inj hd
      exact v_lretE dX6_mean_102 rfl rfl rfl
    · have hd := g_f hd zc10
      refine v_lload dX6_mean_53 rfl ?_
      refine v_aload_n dX6_mean_55 rfl ?_
      refine v_iload dX6_mean_56 rfl ?_
      refine v_iload_n dX6_mean_58 rfl ?_
      obtain ⟨zr15, zh16, hd⟩ := g_bind hd
      refine v_cI (dy := 1) (st := [.long x4]) (st2 := [.long zr15, .long x4]) dX6_mean_59 mv_X6_193 (m_F_oddsOfOut u x6 x1 zh16) rfl rfl rfl rfl rfl (by decide) (by decide) rfl rfl ?_
      refine v_aload_n dX6_mean_62 rfl ?_
      refine v_iload dX6_mean_63 rfl ?_
      refine v_iconst dX6_mean_65 ic_2 ?_
      refine v_iload_n dX6_mean_66 rfl ?_
      obtain ⟨zr17, zh18, hd⟩ := g_bind hd
      refine v_cI (dy := 5) (st := [.long zr15, .long x4]) (st2 := [.ref 16, .long zr15, .long x4]) dX6_mean_67 mv_X6_168 (m_F_playWith u x6 (2 : Int32) x2 zh18) rfl rfl rfl rfl rfl (by decide) (by decide) rfl rfl ?_
      obtain ⟨zr19, zh20, hd⟩ := g_bind hd
      refine v_cV (dy := 0) (st := [.long zr15, .long x4]) (st2 := [.int zr19, .long zr15, .long x4]) (h2 := (h_F zr17)) [16, 17, 18, 19, 20] dX6_mean_70 mv_X6_172 (m_C_loss (sh zr17 16) zh20) rfl rfl rfl rfl rfl rfl rfl rfl (by decide) (by decide) rfl rfl rfl ?_
      refine v_i2l dX6_mean_73 ?_
      refine v_lmul dX6_mean_74 ?_
      refine v_ladd dX6_mean_75 ?_
      refine v_topl (fun zy21 ze22 => ?_)
      have hd := dl_n hd zy21 ze22
      refine v_lstore (i := 4) (L2 := [(4, .long zy21), (0, .ref 0), (1, .int x1), (2, .int x2), (3, .int x3), (6, .int x6)]) dX6_mean_76 (Nat.le_of_ble_eq_true rfl) rfl ?_
      obtain ⟨zy23, ze24⟩ : ∃ z : Int32, z = (x6 + (1 : Int32)) := ⟨_, rfl⟩
      have hd := dl_n hd zy23 ze24
      refine v_iinc (v := zy23) (L2 := [(6, .int zy23), (4, .long zy21), (0, .ref 0), (1, .int x1), (2, .int x2), (3, .int x3)]) dX6_mean_78 rfl (by rw [ic_1]; exact ze24.symm) (Nat.le_of_ble_eq_true rfl) rfl ?_
      refine v_goto (tgt := 39) dX6_mean_81 (by decide) ?_
      refine v_loc [2, 3, 4, 5, 1, 0] rfl ?_
      exact ih zr17 x1 x2 x3 zy21 zy23 hd
def d_F_mean (u : (Nat → Nat → Int32)) (a1 : Int32) (a2 : Int32) (a3 : Int32) : Option (Int64 × (Nat → Nat → Int32)) := (d_P_outside a1 (0 : Int32) (10 : Int32)).bind fun zr1 => if zr1 = 0 then ((d_P_outside a2 (0 : Int32) (20 : Int32)).bind fun zr4 => if zr4 = 0 then ((d_P_outside a3 (0 : Int32) (1 : Int32)).bind fun zr7 => if zr7 = 0 then (d_F_mean_39 FU u a1 a2 a3 (0 : Int64) (0 : Int32)) else (some ((-1 : Int64), u))) else (some ((-1 : Int64), u))) else (some ((-1 : Int64), u))
set_option maxRecDepth 100000 in
set_option maxHeartbeats 4000000 in
theorem v_F_mean (u : (Nat → Nat → Int32)) (a1 : Int32) (a2 : Int32) (a3 : Int32) {r : Int64 × (Nat → Nat → Int32)} (hd : d_F_mean u a1 a2 a3 = some r) : Vd RX6 "mean" cX6_mean 7 (some .long) (rm 6) (ab_eq (some (.long r.1)) (h_F r.2)) 0 0 0 0 0 [(0, .ref 0), (1, .int a1), (2, .int a2), (3, .int a3)] [] (h_F u) := by
  unfold d_F_mean at hd
  refine v_iload_n dX6_mean_0 rfl ?_
  refine v_iconst dX6_mean_1 ic_0 ?_
  refine v_bipush dX6_mean_2 bp_10 ?_
  obtain ⟨zr1, zh2, hd⟩ := g_bind hd
  refine v_cS (dy := 0) (st := []) (st2 := [.int zr1]) (h2 := (h_F u)) [] dX6_mean_4 mz_X6_54 (m_P_outside a1 (0 : Int32) (10 : Int32) zh2) rfl rfl rfl rfl rfl rfl (by decide) (by decide) rfl rfl rfl ?_
  refine v_if_ne (tgt := 29) dX6_mean_7 (by decide) (fun zc3 => ?_) (fun zc3 => ?_)
  · have hd := g_f hd zc3
    refine v_ldc2 dX6_mean_29 kc_X6_183 ?_
    obtain rfl := Option.some.inj hd
    exact v_lretE dX6_mean_32 rfl rfl rfl
  · have hd := g_t hd zc3
    refine v_iload_n dX6_mean_10 rfl ?_
    refine v_iconst dX6_mean_11 ic_0 ?_
    refine v_bipush dX6_mean_12 bp_20 ?_
    obtain ⟨zr4, zh5, hd⟩ := g_bind hd
    refine v_cS (dy := 0) (st := []) (st2 := [.int zr4]) (h2 := (h_F u)) [] dX6_mean_14 mz_X6_54 (m_P_outside a2 (0 : Int32) (20 : Int32) zh5) rfl rfl rfl rfl rfl rfl (by decide) (by decide) rfl rfl rfl ?_
    refine v_if_ne (tgt := 29) dX6_mean_17 (by decide) (fun zc6 => ?_) (fun zc6 => ?_)
    · have hd := g_f hd zc6
      refine v_ldc2 dX6_mean_29 kc_X6_183 ?_
      obtain rfl := Option.some.inj hd
      exact v_lretE dX6_mean_32 rfl rfl rfl
    · have hd := g_t hd zc6
      refine v_iload_n dX6_mean_20 rfl ?_
      refine v_iconst dX6_mean_21 ic_0 ?_
      refine v_iconst dX6_mean_22 ic_1 ?_
      obtain ⟨zr7, zh8, hd⟩ := g_bind hd
      refine v_cS (dy := 0) (st := []) (st2 := [.int zr7]) (h2 := (h_F u)) [] dX6_mean_23 mz_X6_54 (m_P_outside a3 (0 : Int32) (1 : Int32) zh8) rfl rfl rfl rfl rfl rfl (by decide) (by decide) rfl rfl rfl ?_
      refine v_if_eq (tgt := 33) dX6_mean_26 (by decide) (fun zc9 => ?_) (fun zc9 => ?_)
      · have hd := g_t hd zc9
        refine v_lconst (v := 0) dX6_mean_33 rfl ?_
        refine v_lstore (i := 4) (L2 := [(4, .long (0 : Int64)), (0, .ref 0), (1, .int a1), (2, .int a2), (3, .int a3)]) dX6_mean_34 (Nat.le_of_ble_eq_true rfl) rfl ?_
        refine v_iconst dX6_mean_36 ic_0 ?_
        refine v_istore (i := 6) (L2 := [(6, .int (0 : Int32)), (4, .long (0 : Int64)), (0, .ref 0), (1, .int a1), (2, .int a2), (3, .int a3)]) dX6_mean_37 (Nat.le_of_ble_eq_true rfl) rfl ?_
        refine v_loc [2, 3, 4, 5, 1, 0] rfl ?_
        exact v_F_mean_39 FU u a1 a2 a3 (0 : Int64) (0 : Int32) hd
      · have hd := g_f hd zc9
        refine v_ldc2 dX6_mean_29 kc_X6_183 ?_
        obtain rfl := Option.some.inj hd
        exact v_lretE dX6_mean_32 rfl rfl rfl
theorem m_F_mean (u : (Nat → Nat → Int32)) (a1 : Int32) (a2 : Int32) (a3 : Int32) {r : Int64 × (Nat → Nat → Int32)} (hd : d_F_mean u a1 a2 a3 = some r) : Mt yX6_mean cX6_mean 7 (some .long) (rm 6) [.ref 0, .int a1, .int a2, .int a3] (h_F u) (ab_eq (some (.long r.1)) (h_F r.2)) := Mt.of (by decide +kernel) (fun _ _ _ => trivial) (Nat.le_of_ble_eq_true rfl) (v_F_mean u a1 a2 a3 hd)
def d_F_see (u : (Nat → Nat → Int32)) (a1 : Int32) (a2 : Int32) (a3 : Int32) : Option (Int32 × (Nat → Nat → Int32)) := (d_C_has (sh u 11) a1).bind fun zr1 => if zr1 = 0 then (some ((-1 : Int32), u)) else ((d_P_outside a2 (1 : Int32) (9 : Int32)).bind fun zr4 => if zr4 = 0 then ((d_P_outside a3 (0 : Int32) (99 : Int32)).bind fun zr7 => if zr7 = 0 then ((d_G_append (sh u 21) a1 a2 a3).bind fun zr10 => if zr10.1 = 0 then (some ((-3 : Int32), (pt u 21 4 zr10.2))) else (some ((zr10.2 0 3), (pt u 21 4 zr10.2)))) else (some ((-1 : Int32), u))) else (some ((-1 : Int32), u)))
set_option maxRecDepth 100000 in
set_option maxHeartbeats 4000000 in
theorem v_F_see (u : (Nat → Nat → Int32)) (a1 : Int32) (a2 : Int32) (a3 : Int32) {r : Int32 × (Nat → Nat → Int32)} (hd : d_F_see u a1 a2 a3 = some r) : Vd RX6 "see" cX6_see 4 (some .int) (rm 1) (ab_eq (some (.int r.1)) (h_F r.2)) 0 0 0 0 0 [(0, .ref 0), (1, .int a1), (2, .int a2), (3, .int a3)] [] (h_F u) := by
  unfold d_F_see at hd
  refine v_aload_n dX6_see_0 rfl ?_
  refine v_get (v := .ref 11) dX6_see_1 fl_X6_19 rfl rfl ?_
  refine v_iload_n dX6_see_4 rfl ?_
  obtain ⟨zr1, zh2, hd⟩ := g_bind hd
  refine v_cV (dy := 0) (st := []) (st2 := [.int zr1]) (h2 := (h_F u)) [11, 12, 13, 14, 15] dX6_see_5 mv_X6_129 (m_C_has (sh u 11) a1 zh2) rfl rfl rfl rfl rfl rfl rfl rfl (by decide) (by decide) rfl rfl rfl ?_
  refine v_if_eq (tgt := 31) dX6_see_8 (by decide) (fun zc3 => ?_) (fun zc3 => ?_)
  · have hd := g_t hd zc3
    refine v_iconst dX6_see_31 ic_m1 ?_
    obtain rfl := Option.some.inj hd
    exact v_iretE dX6_see_32 rfl rfl rfl rfl
  · have hd := g_f hd zc3
    refine v_iload_n dX6_see_11 rfl ?_
    refine v_iconst dX6_see_12 ic_1 ?_
    refine v_bipush dX6_see_13 bp_9 ?_
    obtain ⟨zr4, zh5, hd⟩ := g_bind hd
    refine v_cS (dy := 0) (st := []) (st2 := [.int zr4]) (h2 := (h_F u)) [] dX6_see_15 mz_X6_54 (m_P_outside a2 (1 : Int32) (9 : Int32) zh5) rfl rfl rfl rfl rfl rfl (by decide) (by decide) rfl rfl rfl ?_
    refine v_if_ne (tgt := 31) dX6_see_18 (by decide) (fun zc6 => ?_) (fun zc6 => ?_)
    · have hd := g_f hd zc6
      refine v_iconst dX6_see_31 ic_m1 ?_
      obtain rfl := Option.some.inj hd
      exact v_iretE dX6_see_32 rfl rfl rfl rfl
    · have hd := g_t hd zc6
      refine v_iload_n dX6_see_21 rfl ?_
      refine v_iconst dX6_see_22 ic_0 ?_
      refine v_bipush dX6_see_23 bp_99 ?_
      obtain ⟨zr7, zh8, hd⟩ := g_bind hd
      refine v_cS (dy := 0) (st := []) (st2 := [.int zr7]) (h2 := (h_F u)) [] dX6_see_25 mz_X6_54 (m_P_outside a3 (0 : Int32) (99 : Int32) zh8) rfl rfl rfl rfl rfl rfl (by decide) (by decide) rfl rfl rfl ?_
      refine v_if_eq (tgt := 33) dX6_see_28 (by decide) (fun zc9 => ?_) (fun zc9 => ?_)
      · have hd := g_t hd zc9
        refine v_aload_n dX6_see_33 rfl ?_
        refine v_get (v := .ref 21) dX6_see_34 fl_X6_29 rfl rfl ?_
        refine v_iload_n dX6_see_37 rfl ?_
        refine v_iload_n dX6_see_38 rfl ?_
        refine v_iload_n dX6_see_39 rfl ?_
        obtain ⟨zr10, zh11, hd⟩ := g_bind hd
        refine v_cV (dy := 0) (st := []) (st2 := [.int zr10.1]) (h2 := (h_F (pt u 21 4 zr10.2))) [21, 22, 23, 24] dX6_see_40 mv_X6_200 (m_G_append (sh u 21) a1 a2 a3 zh11) rfl rfl rfl rfl rfl rfl rfl rfl (by decide) (by decide) rfl rfl rfl ?_
        refine v_if_eq (tgt := 56) dX6_see_43 (by decide) (fun zc12 => ?_) (fun zc12 => ?_)
        · have hd := g_t hd zc12
          refine v_bipush dX6_see_56 bp_m3 ?_
          obtain rfl := Option.some.inj hd
          exact v_iretE dX6_see_58 rfl rfl rfl rfl
        · have hd := g_f hd zc12
          refine v_aload_n dX6_see_46 rfl ?_
          refine v_get (v := .ref 21) dX6_see_47 fl_X6_29 rfl rfl ?_
          refine v_get (v := .int (zr10.2 0 3)) dX6_see_50 fl_X6_91 rfl rfl ?_
          refine v_goto (tgt := 58) dX6_see_53 (by decide) ?_
          obtain rfl := Option.some.inj hd
          exact v_iretE dX6_see_58 rfl rfl rfl rfl
      · have hd := g_f hd zc9
        refine v_iconst dX6_see_31 ic_m1 ?_
        obtain rfl := Option.some.inj hd
        exact v_iretE dX6_see_32 rfl rfl rfl rfl
theorem m_F_see (u : (Nat → Nat → Int32)) (a1 : Int32) (a2 : Int32) (a3 : Int32) {r : Int32 × (Nat → Nat → Int32)} (hd : d_F_see u a1 a2 a3 = some r) : Mt yX6_see cX6_see 4 (some .int) (rm 1) [.ref 0, .int a1, .int a2, .int a3] (h_F u) (ab_eq (some (.int r.1)) (h_F r.2)) := Mt.of (by decide +kernel) (fun _ _ _ => trivial) (Nat.le_of_ble_eq_true rfl) (v_F_see u a1 a2 a3 hd)
def d_F_forget (u : (Nat → Nat → Int32)) (a1 : Int32) : Option (Int32 × (Nat → Nat → Int32)) := (d_P_outside a1 (0 : Int32) (u 21 3)).bind fun zr1 => if zr1 = 0 then (dl (u 21 3) fun zy4 => some (zy4, (pw u 21 3 a1))) else (some ((-1 : Int32), u))
set_option maxRecDepth 100000 in
set_option maxHeartbeats 4000000 in
theorem v_F_forget (u : (Nat → Nat → Int32)) (a1 : Int32) {r : Int32 × (Nat → Nat → Int32)} (hd : d_F_forget u a1 = some r) : Vd RX6 "forget" cX6_forget 3 (some .int) (rm 1) (ab_eq (some (.int r.1)) (h_F r.2)) 0 0 0 0 0 [(0, .ref 0), (1, .int a1)] [] (h_F u) := by
  unfold d_F_forget at hd
  refine v_iload_n dX6_forget_0 rfl ?_
  refine v_iconst dX6_forget_1 ic_0 ?_
  refine v_aload_n dX6_forget_2 rfl ?_
  refine v_get (v := .ref 21) dX6_forget_3 fl_X6_29 rfl rfl ?_
  refine v_get (v := .int (u 21 3)) dX6_forget_6 fl_X6_91 rfl rfl ?_
  obtain ⟨zr1, zh2, hd⟩ := g_bind hd
  refine v_cS (dy := 0) (st := []) (st2 := [.int zr1]) (h2 := (h_F u)) [] dX6_forget_9 mz_X6_54 (m_P_outside a1 (0 : Int32) (u 21 3) zh2) rfl rfl rfl rfl rfl rfl (by decide) (by decide) rfl rfl rfl ?_
  refine v_if_eq (tgt := 17) dX6_forget_12 (by decide) (fun zc3 => ?_) (fun zc3 => ?_)
  · have hd := g_t hd zc3
    refine v_aload_n dX6_forget_17 rfl ?_
    refine v_get (v := .ref 21) dX6_forget_18 fl_X6_29 rfl rfl ?_
    refine v_get (v := .int (u 21 3)) dX6_forget_21 fl_X6_91 rfl rfl ?_
    refine v_topi (fun zy4 ze5 => ?_)
    have hd := dl_n hd zy4 ze5
    refine v_istore_n (i := 2) (L2 := [(2, .int zy4), (0, .ref 0), (1, .int a1)]) dX6_forget_24 rfl (Nat.le_of_ble_eq_true rfl) rfl ?_
    refine v_aload_n dX6_forget_25 rfl ?_
    refine v_get (v := .ref 21) dX6_forget_26 fl_X6_29 rfl rfl ?_
    refine v_iload_n dX6_forget_29 rfl ?_
    refine v_pti (h2 := (h_F (pw u 21 3 a1))) dX6_forget_30 fl_X6_91 rfl (Nat.le_of_ble_eq_true rfl) rfl ?_
    refine v_iload_n dX6_forget_33 rfl ?_
    obtain rfl := Option.some.inj hd
    exact v_iretE dX6_forget_34 rfl rfl rfl rfl
  · have hd := g_f hd zc3
    refine v_iconst dX6_forget_15 ic_m1 ?_
    obtain rfl := Option.some.inj hd
    exact v_iretE dX6_forget_16 rfl rfl rfl rfl
theorem m_F_forget (u : (Nat → Nat → Int32)) (a1 : Int32) {r : Int32 × (Nat → Nat → Int32)} (hd : d_F_forget u a1 = some r) : Mt yX6_forget cX6_forget 3 (some .int) (rm 1) [.ref 0, .int a1] (h_F u) (ab_eq (some (.int r.1)) (h_F r.2)) := Mt.of (by decide +kernel) (fun _ _ _ => trivial) (Nat.le_of_ble_eq_true rfl) (v_F_forget u a1 hd)

def d_F_tryKinds_35 (k14 : (Nat → Nat → Int32) → Int32 → Int32 → Option ((Nat → Nat → Int32))) : Nat → (Nat → Nat → Int32) → Int32 → Int32 → Int32 → Option ((Nat → Nat → Int32))
  | 0, _, _, _, _ => none
  | f + 1, u, x2, x3, x4 => if (u 16 4) ≤ x4 then (dl (x3 + (1 : Int32)) fun zy10 => k14 u x2 zy10) else ((d_P_slot x4 x3).bind fun zr12 => if gi x4 5 = true then if gi zr12 45 = true then dl ((u 18) x4.toNatClampNeg) fun zy16 => dl (x4 + (1 : Int32)) fun zy18 => d_F_tryKinds_35 k14 f (pw u 55 zr12.toNatClampNeg zy16) x2 x3 zy18 else none else none)
set_option maxRecDepth 100000 in
set_option maxHeartbeats 4000000 in
theorem v_F_tryKinds_35  {r : (Nat → Nat → Int32)} (k14 : (Nat → Nat → Int32) → Int32 → Int32 → Option ((Nat → Nat → Int32))) (hk14 : ∀ (u : (Nat → Nat → Int32)) (x2 : Int32) (x3 : Int32), k14 u x2 x3 = some r → Vd RX6 "tryKinds" cX6_tryKinds 5 none (rm 4) (ab_eq none (h_F r)) 0 0 0 0 14 [(0, .ref 0), (2, .int x2), (3, .int x3)] [] (h_F u)) : ∀ (f : Nat) (u : (Nat → Nat → Int32)) (x2 : Int32) (x3 : Int32) (x4 : Int32), d_F_tryKinds_35 k14 f u x2 x3 x4 = some r → Vd RX6 "tryKinds" cX6_tryKinds 5 none (rm 4) (ab_eq none (h_F r)) 0 0 0 0 35 [(0, .ref 0), (2, .int x2), (3, .int x3), (4, .int x4)] [] (h_F u) := by
  intro f
  induction f with
  | zero =>
    intro u x2 x3 x4 hd
    rw [d_F_tryKinds_35] at hd
    cases hd
  | succ f ih =>
    intro u x2 x3 x4 hd
    rw [d_F_tryKinds_35] at hd
    refine v_iload dX6_tryKinds_35 rfl ?_
    refine v_aload_n dX6_tryKinds_37 rfl ?_
    refine v_get (v := .ref 16) dX6_tryKinds_38 fl_X6_23 rfl rfl ?_
    refine v_get (v := .int (u 16 4)) dX6_tryKinds_41 fl_X6_101 rfl rfl ?_
    refine v_icmp_ge (tgt := 74) dX6_tryKinds_44 (by decide) (fun zc9 => ?_) (fun zc9 => ?_)
    · have hd := g_t hd zc9
      obtain ⟨zy10, ze11⟩ : ∃ z : Int32, z = (x3 + (1 : Int32)) := ⟨_, rfl⟩
      have hd := dl_n hd zy10 ze11
      refine v_iinc (v := zy10) (L2 := [(3, .int zy10), (0, .ref 0), (2, .int x2), (4, .int x4)]) dX6_tryKinds_74 rfl (by rw [ic_1]; exact ze11.symm) (Nat.le_of_ble_eq_true rfl) rfl ?_
      refine v_goto (tgt := 14) dX6_tryKinds_77 (by decide) ?_
      refine v_loc [1, 2, 0] rfl ?_
      exact hk14 u x2 zy10 hd
    · have hd := g_f hd zc9
      refine v_aload_n dX6_tryKinds_47 rfl ?_
      refine v_get (v := .ref 55) dX6_tryKinds_48 fl_X6_47 rfl rfl ?_
      refine v_iload dX6_tryKinds_51 rfl ?_
      refine v_iload_n dX6_tryKinds_53 rfl ?_
      obtain ⟨zr12, zh13, hd⟩ := g_bind hd
      refine v_cS (dy := 0) (st := [.ref 55]) (st2 := [.int zr12, .ref 55]) (h2 := (h_F u)) [] dX6_tryKinds_54 mz_X6_216 (m_P_slot x4 x3 zh13) rfl rfl rfl rfl rfl rfl (by decide) (by decide) rfl rfl rfl ?_
      refine v_aload_n dX6_tryKinds_57 rfl ?_
      refine v_get (v := .ref 16) dX6_tryKinds_58 fl_X6_23 rfl rfl ?_
      refine v_get (v := .ref 18) dX6_tryKinds_61 fl_X6_135 rfl rfl ?_
      refine v_iload dX6_tryKinds_64 rfl ?_
      obtain ⟨zg14, hd⟩ := g_b hd
      refine v_iald (f := (u 18)) dX6_tryKinds_66 rfl (gi_in zg14) ?_
      obtain ⟨zg15, hd⟩ := g_b hd
      refine v_topi (fun zy16 ze17 => ?_)
      have hd := dl_n hd zy16 ze17
      refine v_ist (f := (u 55)) (h2 := (h_F (pw u 55 zr12.toNatClampNeg zy16))) dX6_tryKinds_67 rfl (gi_in zg15) rfl ?_
      obtain ⟨zy18, ze19⟩ : ∃ z : Int32, z = (x4 + (1 : Int32)) := ⟨_, rfl⟩
      have hd := dl_n hd zy18 ze19
      refine v_iinc (v := zy18) (L2 := [(4, .int zy18), (0, .ref 0), (2, .int x2), (3, .int x3)]) dX6_tryKinds_68 rfl (by rw [ic_1]; exact ze19.symm) (Nat.le_of_ble_eq_true rfl) rfl ?_
      refine v_goto (tgt := 35) dX6_tryKinds_71 (by decide) ?_
      refine v_loc [1, 2, 3, 0] rfl ?_
      exact ih (pw u 55 zr12.toNatClampNeg zy16) x2 x3 zy18 hd

def d_F_tryKinds_14  : Nat → (Nat → Nat → Int32) → Int32 → Int32 → Option ((Nat → Nat → Int32))
  | 0, _, _, _ => none
  | f + 1, u, x2, x3 => if x2 < x3 then (some u) else (if (9 : Int32) < x3 then (some u) else ((d_C_passNight (sh u 16)).bind fun zr7 => d_F_tryKinds_35 (d_F_tryKinds_14 f) FU (pt u 16 5 zr7) x2 x3 (0 : Int32)))
set_option maxRecDepth 100000 in
set_option maxHeartbeats 4000000 in
theorem v_F_tryKinds_14  {r : (Nat → Nat → Int32)}  : ∀ (f : Nat) (u : (Nat → Nat → Int32)) (x2 : Int32) (x3 : Int32), d_F_tryKinds_14  f u x2 x3 = some r → Vd RX6 "tryKinds" cX6_tryKinds 5 none (rm 4) (ab_eq none (h_F r)) 0 0 0 0 14 [(0, .ref 0), (2, .int x2), (3, .int x3)] [] (h_F u) := by
  intro f
  induction f with
  | zero =>
    intro u x2 x3 hd
    rw [d_F_tryKinds_14] at hd
    cases hd
  | succ f ih =>
    intro u x2 x3 hd
    rw [d_F_tryKinds_14] at hd
    refine v_iload_n dX6_tryKinds_14 rfl ?_
    refine v_iload_n dX6_tryKinds_15 rfl ?_
    refine v_icmp_gt (tgt := 80) dX6_tryKinds_16 (by decide) (fun zc5 => ?_) (fun zc5 => ?_)
    · have hd := g_t hd zc5
      obtain rfl := Option.some.inj hd
      exact v_vretE dX6_tryKinds_80 rfl rfl rfl
    · have hd := g_f hd zc5
      refine v_iload_n dX6_tryKinds_19 rfl ?_
      refine v_bipush dX6_tryKinds_20 bp_9 ?_
      refine v_icmp_gt (tgt := 80) dX6_tryKinds_22 (by decide) (fun zc6 => ?_) (fun zc6 => ?_)
      · have hd := g_t hd zc6
        obtain rfl := Option.some.inj hd
        exact v_vretE dX6_tryKinds_80 rfl rfl rfl
      · have hd := g_f hd zc6
        refine v_aload_n dX6_tryKinds_25 rfl ?_
        refine v_get (v := .ref 16) dX6_tryKinds_26 fl_X6_23 rfl rfl ?_
        obtain ⟨zr7, zh8, hd⟩ := g_bind hd
        refine v_cV (dy := 3) (st := []) (st2 := []) (h2 := (h_F (pt u 16 5 zr7))) [16, 17, 18, 19, 20] dX6_tryKinds_29 mv_X6_152 (m_C_passNight (sh u 16) zh8) rfl rfl rfl rfl rfl rfl rfl rfl (by decide) (by decide) rfl rfl rfl ?_
        refine v_iconst dX6_tryKinds_32 ic_0 ?_
        refine v_istore (i := 4) (L2 := [(4, .int (0 : Int32)), (0, .ref 0), (2, .int x2), (3, .int x3)]) dX6_tryKinds_33 (Nat.le_of_ble_eq_true rfl) rfl ?_
        refine v_loc [1, 2, 3, 0] rfl ?_
        exact v_F_tryKinds_35 (d_F_tryKinds_14 f) (ih) FU (pt u 16 5 zr7) x2 x3 (0 : Int32) hd
def d_F_tryKinds (u : (Nat → Nat → Int32)) (a1 : Int32) (a2 : Int32) : Option ((Nat → Nat → Int32)) := (d_F_startTrial u).bind fun zr1 => (d_C_putKinds (sh zr1 16) a1).bind fun zr3 => d_F_tryKinds_14 FU (pt zr1 16 5 zr3) a2 (1 : Int32)
set_option maxRecDepth 100000 in
set_option maxHeartbeats 4000000 in
theorem v_F_tryKinds (u : (Nat → Nat → Int32)) (a1 : Int32) (a2 : Int32) {r : (Nat → Nat → Int32)} (hd : d_F_tryKinds u a1 a2 = some r) : Vd RX6 "tryKinds" cX6_tryKinds 5 none (rm 4) (ab_eq none (h_F r)) 0 0 0 0 0 [(0, .ref 0), (1, .int a1), (2, .int a2)] [] (h_F u) := by
  unfold d_F_tryKinds at hd
  refine v_aload_n dX6_tryKinds_0 rfl ?_
  obtain ⟨zr1, zh2, hd⟩ := g_bind hd
  refine v_cI (dy := 2) (st := []) (st2 := []) dX6_tryKinds_1 mv_X6_149 (m_F_startTrial u zh2) rfl rfl rfl rfl rfl (by decide) (by decide) rfl rfl ?_
  refine v_aload_n dX6_tryKinds_4 rfl ?_
  refine v_get (v := .ref 16) dX6_tryKinds_5 fl_X6_23 rfl rfl ?_
  refine v_iload_n dX6_tryKinds_8 rfl ?_
  obtain ⟨zr3, zh4, hd⟩ := g_bind hd
  refine v_cV (dy := 2) (st := []) (st2 := []) (h2 := (h_F (pt zr1 16 5 zr3))) [16, 17, 18, 19, 20] dX6_tryKinds_9 mv_X6_268 (m_C_putKinds (sh zr1 16) a1 zh4) rfl rfl rfl rfl rfl rfl rfl rfl (by decide) (by decide) rfl rfl rfl ?_
  refine v_iconst dX6_tryKinds_12 ic_1 ?_
  refine v_istore_n (i := 3) (L2 := [(3, .int (1 : Int32)), (0, .ref 0), (1, .int a1), (2, .int a2)]) dX6_tryKinds_13 rfl (Nat.le_of_ble_eq_true rfl) rfl ?_
  refine v_loc [1, 3, 0] rfl ?_
  exact v_F_tryKinds_14 FU (pt zr1 16 5 zr3) a2 (1 : Int32) hd
theorem m_F_tryKinds (u : (Nat → Nat → Int32)) (a1 : Int32) (a2 : Int32) {r : (Nat → Nat → Int32)} (hd : d_F_tryKinds u a1 a2 = some r) : Mt yX6_tryKinds cX6_tryKinds 5 none (rm 4) [.ref 0, .int a1, .int a2] (h_F u) (ab_eq none (h_F r)) := Mt.of (by decide +kernel) (fun _ _ _ => trivial) (Nat.le_of_ble_eq_true rfl) (v_F_tryKinds u a1 a2 hd)

def d_F_fits_121 (k57 : (Nat → Nat → Int32) → Int32 → Int32 → Int32 → Int32 → Int32 → Int32 → Int32 → Int32 → Option (Int32 × (Nat → Nat → Int32))) (u : (Nat → Nat → Int32)) (x1 : Int32) (x2 : Int32) (x3 : Int32) (x4 : Int32) (x5 : Int32) (x6 : Int32) (x7 : Int32) (x8 : Int32) : Option (Int32 × (Nat → Nat → Int32)) := dl (x8 + (1 : Int32)) fun zy18 => k57 u x1 x2 x3 x4 x5 x6 x7 zy18
set_option maxRecDepth 100000 in
set_option maxHeartbeats 4000000 in
theorem v_F_fits_121  {r : Int32 × (Nat → Nat → Int32)} (k57 : (Nat → Nat → Int32) → Int32 → Int32 → Int32 → Int32 → Int32 → Int32 → Int32 → Int32 → Option (Int32 × (Nat → Nat → Int32))) (hk57 : ∀ (u : (Nat → Nat → Int32)) (x1 : Int32) (x2 : Int32) (x3 : Int32) (x4 : Int32) (x5 : Int32) (x6 : Int32) (x7 : Int32) (x8 : Int32), k57 u x1 x2 x3 x4 x5 x6 x7 x8 = some r → Vd RX6 "fits" cX6_fits 9 (some .int) (rm 5) (ab_eq (some (.int r.1)) (h_F r.2)) 0 0 0 0 57 [(0, .ref 0), (1, .int x1), (2, .int x2), (3, .int x3), (4, .int x4), (5, .int x5), (6, .int x6), (7, .int x7), (8, .int x8)] [] (h_F u)) (u : (Nat → Nat → Int32)) (x1 : Int32) (x2 : Int32) (x3 : Int32) (x4 : Int32) (x5 : Int32) (x6 : Int32) (x7 : Int32) (x8 : Int32) (hd : d_F_fits_121 k57 u x1 x2 x3 x4 x5 x6 x7 x8 = some r) : Vd RX6 "fits" cX6_fits 9 (some .int) (rm 5) (ab_eq (some (.int r.1)) (h_F r.2)) 0 0 0 0 121 [(0, .ref 0), (1, .int x1), (2, .int x2), (3, .int x3), (4, .int x4), (5, .int x5), (6, .int x6), (7, .int x7), (8, .int x8)] [] (h_F u) := by
  unfold d_F_fits_121 at hd
  obtain ⟨zy18, ze19⟩ : ∃ z : Int32, z = (x8 + (1 : Int32)) := ⟨_, rfl⟩
  have hd := dl_n hd zy18 ze19
  refine v_iinc (v := zy18) (L2 := [(8, .int zy18), (0, .ref 0), (1, .int x1), (2, .int x2), (3, .int x3), (4, .int x4), (5, .int x5), (6, .int x6), (7, .int x7)]) dX6_fits_121 rfl (by rw [ic_1]; exact ze19.symm) (Nat.le_of_ble_eq_true rfl) rfl ?_
  refine v_goto (tgt := 57) dX6_fits_124 (by decide) ?_
  refine v_loc [1, 2, 3, 4, 5, 6, 7, 8, 0] rfl ?_
  exact hk57 u x1 x2 x3 x4 x5 x6 x7 zy18 hd

def d_F_fits_102 (k57 : (Nat → Nat → Int32) → Int32 → Int32 → Int32 → Int32 → Int32 → Int32 → Int32 → Int32 → Option (Int32 × (Nat → Nat → Int32))) (u : (Nat → Nat → Int32)) (x1 : Int32) (x2 : Int32) (x3 : Int32) (x4 : Int32) (x6 : Int32) (x7 : Int32) (x8 : Int32) (s0 : Int32) : Option (Int32 × (Nat → Nat → Int32)) := (d_C_kindBy (sh u 11) x8 x2).bind fun zr23 => dl (x6 ||| ((1 : Int32) <<< (zr23 &&& 31))) fun zy25 => d_F_fits_121 k57 u x1 x2 x3 x4 s0 zy25 x7 x8
set_option maxRecDepth 100000 in
set_option maxHeartbeats 4000000 in
theorem v_F_fits_102  {r : Int32 × (Nat → Nat → Int32)} (k57 : (Nat → Nat → Int32) → Int32 → Int32 → Int32 → Int32 → Int32 → Int32 → Int32 → Int32 → Option (Int32 × (Nat → Nat → Int32))) (hk57 : ∀ (u : (Nat → Nat → Int32)) (x1 : Int32) (x2 : Int32) (x3 : Int32) (x4 : Int32) (x5 : Int32) (x6 : Int32) (x7 : Int32) (x8 : Int32), k57 u x1 x2 x3 x4 x5 x6 x7 x8 = some r → Vd RX6 "fits" cX6_fits 9 (some .int) (rm 5) (ab_eq (some (.int r.1)) (h_F r.2)) 0 0 0 0 57 [(0, .ref 0), (1, .int x1), (2, .int x2), (3, .int x3), (4, .int x4), (5, .int x5), (6, .int x6), (7, .int x7), (8, .int x8)] [] (h_F u)) (u : (Nat → Nat → Int32)) (x1 : Int32) (x2 : Int32) (x3 : Int32) (x4 : Int32) (x6 : Int32) (x7 : Int32) (x8 : Int32) (s0 : Int32) (hd : d_F_fits_102 k57 u x1 x2 x3 x4 x6 x7 x8 s0 = some r) : Vd RX6 "fits" cX6_fits 9 (some .int) (rm 5) (ab_eq (some (.int r.1)) (h_F r.2)) 0 0 0 0 102 [(0, .ref 0), (1, .int x1), (2, .int x2), (3, .int x3), (4, .int x4), (6, .int x6), (7, .int x7), (8, .int x8)] [.int s0] (h_F u) := by
  unfold d_F_fits_102 at hd
  refine v_istore (i := 5) (L2 := [(5, .int s0), (0, .ref 0), (1, .int x1), (2, .int x2), (3, .int x3), (4, .int x4), (6, .int x6), (7, .int x7), (8, .int x8)]) dX6_fits_102 (Nat.le_of_ble_eq_true rfl) rfl ?_
  refine v_iload dX6_fits_104 rfl ?_
  refine v_iconst dX6_fits_106 ic_1 ?_
  refine v_aload_n dX6_fits_107 rfl ?_
  refine v_get (v := .ref 11) dX6_fits_108 fl_X6_19 rfl rfl ?_
  refine v_iload dX6_fits_111 rfl ?_
  refine v_iload_n dX6_fits_113 rfl ?_
  obtain ⟨zr23, zh24, hd⟩ := g_bind hd
  refine v_cV (dy := 1) (st := [.int (1 : Int32), .int x6]) (st2 := [.int zr23, .int (1 : Int32), .int x6]) (h2 := (h_F u)) [11, 12, 13, 14, 15] dX6_fits_114 mv_X6_161 (m_C_kindBy (sh u 11) x8 x2 zh24) rfl rfl rfl rfl rfl rfl rfl rfl (by decide) (by decide) rfl rfl rfl ?_
  refine v_ishl dX6_fits_117 ?_
  refine v_ior dX6_fits_118 ?_
  refine v_topi (fun zy25 ze26 => ?_)
  have hd := dl_n hd zy25 ze26
  refine v_istore (i := 6) (L2 := [(6, .int zy25), (5, .int s0), (0, .ref 0), (1, .int x1), (2, .int x2), (3, .int x3), (4, .int x4), (7, .int x7), (8, .int x8)]) dX6_fits_119 (Nat.le_of_ble_eq_true rfl) rfl ?_
  refine v_loc [2, 3, 4, 5, 6, 1, 0, 7, 8] rfl ?_
  exact v_F_fits_121 k57 (hk57) u x1 x2 x3 x4 s0 zy25 x7 x8 hd

def d_F_fits_57  : Nat → (Nat → Nat → Int32) → Int32 → Int32 → Int32 → Int32 → Int32 → Int32 → Int32 → Int32 → Option (Int32 × (Nat → Nat → Int32))
  | 0, _, _, _, _, _, _, _, _, _ => none
  | f + 1, u, x1, x2, x3, x4, x5, x6, x7, x8 => if x3 ≤ x8 then (if x1 = 0 then (some (x4, u)) else (if x1 = (1 : Int32) then (some (x5, u)) else (some (x6, u)))) else ((d_F_tryKinds u x8 x7).bind fun zr13 => (d_GL_agreesWith (sj (sh zr13 21) (sh zr13 55) 4)).bind fun zr15 => if zr15 = 0 then (d_F_fits_121 (d_F_fits_57 f) zr13 x1 x2 x3 x4 x5 x6 x7 x8) else (dl (x4 + (1 : Int32)) fun zy20 => if x5 = (-4 : Int32) then (d_F_fits_102 (d_F_fits_57 f) zr13 x1 x2 x3 zy20 x6 x7 x8 x8) else (d_F_fits_102 (d_F_fits_57 f) zr13 x1 x2 x3 zy20 x6 x7 x8 x5)))
set_option maxRecDepth 100000 in
set_option maxHeartbeats 4000000 in
theorem v_F_fits_57  {r : Int32 × (Nat → Nat → Int32)}  : ∀ (f : Nat) (u : (Nat → Nat → Int32)) (x1 : Int32) (x2 : Int32) (x3 : Int32) (x4 : Int32) (x5 : Int32) (x6 : Int32) (x7 : Int32) (x8 : Int32), d_F_fits_57  f u x1 x2 x3 x4 x5 x6 x7 x8 = some r → Vd RX6 "fits" cX6_fits 9 (some .int) (rm 5) (ab_eq (some (.int r.1)) (h_F r.2)) 0 0 0 0 57 [(0, .ref 0), (1, .int x1), (2, .int x2), (3, .int x3), (4, .int x4), (5, .int x5), (6, .int x6), (7, .int x7), (8, .int x8)] [] (h_F u) := by
  intro f
  induction f with
  | zero =>
    intro u x1 x2 x3 x4 x5 x6 x7 x8 hd
    rw [d_F_fits_57] at hd
    cases hd
  | succ f ih =>
    intro u x1 x2 x3 x4 x5 x6 x7 x8 hd
    rw [d_F_fits_57] at hd
    refine v_iload dX6_fits_57 rfl ?_
    refine v_iload_n dX6_fits_59 rfl ?_
    refine v_icmp_ge (tgt := 127) dX6_fits_60 (by decide) (fun zc10 => ?_) (fun zc10 => ?_)
    · have hd := g_t hd zc10
      refine v_iload_n dX6_fits_127 rfl ?_
      refine v_if_ne (tgt := 134) dX6_fits_128 (by decide) (fun zc11 => ?_) (fun zc11 => ?_)
      · have hd := g_f hd zc11
        refine v_iload_n dX6_fits_134 rfl ?_
        refine v_iconst dX6_fits_135 ic_1 ?_
        refine v_icmp_ne (tgt := 144) dX6_fits_136 (by decide) (fun zc12 => ?_) (fun zc12 => ?_)
        · have hd := g_f hd zc12
          refine v_iload dX6_fits_144 rfl ?_
          obtain rfl := Option.some.inj hd
          exact v_iretE dX6_fits_146 rfl rfl rfl rfl
        · have hd := g_t hd zc12
          refine v_iload dX6_fits_139 rfl ?_
          refine v_goto (tgt := 146) dX6_fits_141 (by decide) ?_
          obtain rfl := Option.some.inj hd
          exact v_iretE dX6_fits_146 rfl rfl rfl rfl
      · have hd := g_t hd zc11
        refine v_iload dX6_fits_131 rfl ?_
        obtain rfl := Option.some.inj hd
        exact v_iretE dX6_fits_133 rfl rfl rfl rfl
    · have hd := g_f hd zc10
      refine v_aload_n dX6_fits_63 rfl ?_
      refine v_iload dX6_fits_64 rfl ?_
      refine v_iload dX6_fits_66 rfl ?_
      obtain ⟨zr13, zh14, hd⟩ := g_bind hd
      refine v_cI (dy := 4) (st := []) (st2 := []) dX6_fits_68 mv_X6_205 (m_F_tryKinds u x8 x7 zh14) rfl rfl rfl rfl rfl (by decide) (by decide) rfl rfl ?_
      refine v_aload_n dX6_fits_71 rfl ?_
      refine v_get (v := .ref 21) dX6_fits_72 fl_X6_29 rfl rfl ?_
      refine v_aload_n dX6_fits_75 rfl ?_
      refine v_get (v := .ref 55) dX6_fits_76 fl_X6_47 rfl rfl ?_
      obtain ⟨zr15, zh16, hd⟩ := g_bind hd
      refine v_cV (dy := 1) (st := []) (st2 := [.int zr15]) (h2 := (h_F zr13)) [21, 22, 23, 24, 55] dX6_fits_79 mv_X6_209 (m_GL_agreesWith (sj (sh zr13 21) (sh zr13 55) 4) zh16) rfl rfl rfl rfl rfl rfl rfl rfl (by decide) (by decide) rfl rfl rfl ?_
      refine v_if_eq (tgt := 121) dX6_fits_82 (by decide) (fun zc17 => ?_) (fun zc17 => ?_)
      · have hd := g_t hd zc17
        exact v_F_fits_121 (d_F_fits_57 f) (ih) zr13 x1 x2 x3 x4 x5 x6 x7 x8 hd
      · have hd := g_f hd zc17
        obtain ⟨zy20, ze21⟩ : ∃ z : Int32, z = (x4 + (1 : Int32)) := ⟨_, rfl⟩
        have hd := dl_n hd zy20 ze21
        refine v_iinc (v := zy20) (L2 := [(4, .int zy20), (0, .ref 0), (1, .int x1), (2, .int x2), (3, .int x3), (5, .int x5), (6, .int x6), (7, .int x7), (8, .int x8)]) dX6_fits_85 rfl (by rw [ic_1]; exact ze21.symm) (Nat.le_of_ble_eq_true rfl) rfl ?_
        refine v_iload dX6_fits_88 rfl ?_
        refine v_bipush dX6_fits_90 bp_m4 ?_
        refine v_icmp_ne (tgt := 100) dX6_fits_92 (by decide) (fun zc22 => ?_) (fun zc22 => ?_)
        · have hd := g_f hd zc22
          refine v_iload dX6_fits_100 rfl ?_
          refine v_loc [1, 2, 3, 4, 0, 6, 7, 8] rfl ?_
          exact v_F_fits_102 (d_F_fits_57 f) (ih) zr13 x1 x2 x3 zy20 x6 x7 x8 x5 hd
        · have hd := g_t hd zc22
          refine v_iload dX6_fits_95 rfl ?_
          refine v_goto (tgt := 102) dX6_fits_97 (by decide) ?_
          refine v_loc [1, 2, 3, 4, 0, 6, 7, 8] rfl ?_
          exact v_F_fits_102 (d_F_fits_57 f) (ih) zr13 x1 x2 x3 zy20 x6 x7 x8 x8 hd

def d_F_fits_27  (u : (Nat → Nat → Int32)) (x1 : Int32) (x2 : Int32) : Option (Int32 × (Nat → Nat → Int32)) := (d_C_allKinds (sh u 11)).bind fun zr6 => (d_G_mostNights (sh u 21)).bind fun zr8 => d_F_fits_57 FU u x1 x2 zr6 (0 : Int32) (-4 : Int32) (0 : Int32) zr8 (0 : Int32)
set_option maxRecDepth 100000 in
set_option maxHeartbeats 4000000 in
theorem v_F_fits_27  {r : Int32 × (Nat → Nat → Int32)}  (u : (Nat → Nat → Int32)) (x1 : Int32) (x2 : Int32) (hd : d_F_fits_27  u x1 x2 = some r) : Vd RX6 "fits" cX6_fits 9 (some .int) (rm 5) (ab_eq (some (.int r.1)) (h_F r.2)) 0 0 0 0 27 [(0, .ref 0), (1, .int x1), (2, .int x2)] [] (h_F u) := by
  unfold d_F_fits_27 at hd
  refine v_aload_n dX6_fits_27 rfl ?_
  refine v_get (v := .ref 11) dX6_fits_28 fl_X6_19 rfl rfl ?_
  obtain ⟨zr6, zh7, hd⟩ := g_bind hd
  refine v_cV (dy := 0) (st := []) (st2 := [.int zr6]) (h2 := (h_F u)) [11, 12, 13, 14, 15] dX6_fits_31 mv_X6_155 (m_C_allKinds (sh u 11) zh7) rfl rfl rfl rfl rfl rfl rfl rfl (by decide) (by decide) rfl rfl rfl ?_
  refine v_istore_n (i := 3) (L2 := [(3, .int zr6), (0, .ref 0), (1, .int x1), (2, .int x2)]) dX6_fits_34 rfl (Nat.le_of_ble_eq_true rfl) rfl ?_
  refine v_iconst dX6_fits_35 ic_0 ?_
  refine v_istore (i := 4) (L2 := [(4, .int (0 : Int32)), (3, .int zr6), (0, .ref 0), (1, .int x1), (2, .int x2)]) dX6_fits_36 (Nat.le_of_ble_eq_true rfl) rfl ?_
  refine v_bipush dX6_fits_38 bp_m4 ?_
  refine v_istore (i := 5) (L2 := [(5, .int (-4 : Int32)), (4, .int (0 : Int32)), (3, .int zr6), (0, .ref 0), (1, .int x1), (2, .int x2)]) dX6_fits_40 (Nat.le_of_ble_eq_true rfl) rfl ?_
  refine v_iconst dX6_fits_42 ic_0 ?_
  refine v_istore (i := 6) (L2 := [(6, .int (0 : Int32)), (5, .int (-4 : Int32)), (4, .int (0 : Int32)), (3, .int zr6), (0, .ref 0), (1, .int x1), (2, .int x2)]) dX6_fits_43 (Nat.le_of_ble_eq_true rfl) rfl ?_
  refine v_aload_n dX6_fits_45 rfl ?_
  refine v_get (v := .ref 21) dX6_fits_46 fl_X6_29 rfl rfl ?_
  obtain ⟨zr8, zh9, hd⟩ := g_bind hd
  refine v_cV (dy := 1) (st := []) (st2 := [.int zr8]) (h2 := (h_F u)) [21, 22, 23, 24] dX6_fits_49 mv_X6_202 (m_G_mostNights (sh u 21) zh9) rfl rfl rfl rfl rfl rfl rfl rfl (by decide) (by decide) rfl rfl rfl ?_
  refine v_istore (i := 7) (L2 := [(7, .int zr8), (6, .int (0 : Int32)), (5, .int (-4 : Int32)), (4, .int (0 : Int32)), (3, .int zr6), (0, .ref 0), (1, .int x1), (2, .int x2)]) dX6_fits_52 (Nat.le_of_ble_eq_true rfl) rfl ?_
  refine v_iconst dX6_fits_54 ic_0 ?_
  refine v_istore (i := 8) (L2 := [(8, .int (0 : Int32)), (7, .int zr8), (6, .int (0 : Int32)), (5, .int (-4 : Int32)), (4, .int (0 : Int32)), (3, .int zr6), (0, .ref 0), (1, .int x1), (2, .int x2)]) dX6_fits_55 (Nat.le_of_ble_eq_true rfl) rfl ?_
  refine v_loc [6, 7, 8, 5, 4, 3, 2, 1, 0] rfl ?_
  exact v_F_fits_57 FU u x1 x2 zr6 (0 : Int32) (-4 : Int32) (0 : Int32) zr8 (0 : Int32) hd
def d_F_fits (u : (Nat → Nat → Int32)) (a1 : Int32) : Option (Int32 × (Nat → Nat → Int32)) := dl (a1 - (10 : Int32)) fun zy1 => (d_P_outside a1 (0 : Int32) (1 : Int32)).bind fun zr3 => if zr3 = 0 then (d_F_fits_27 u a1 zy1) else ((d_C_has (sh u 11) zy1).bind fun zr27 => if zr27 = 0 then (some ((-1 : Int32), u)) else (d_F_fits_27 u a1 zy1))
set_option maxRecDepth 100000 in
set_option maxHeartbeats 4000000 in
theorem v_F_fits (u : (Nat → Nat → Int32)) (a1 : Int32) {r : Int32 × (Nat → Nat → Int32)} (hd : d_F_fits u a1 = some r) : Vd RX6 "fits" cX6_fits 9 (some .int) (rm 5) (ab_eq (some (.int r.1)) (h_F r.2)) 0 0 0 0 0 [(0, .ref 0), (1, .int a1)] [] (h_F u) := by
  unfold d_F_fits at hd
  refine v_iload_n dX6_fits_0 rfl ?_
  refine v_bipush dX6_fits_1 bp_10 ?_
  refine v_isub dX6_fits_3 ?_
  refine v_topi (fun zy1 ze2 => ?_)
  have hd := dl_n hd zy1 ze2
  refine v_istore_n (i := 2) (L2 := [(2, .int zy1), (0, .ref 0), (1, .int a1)]) dX6_fits_4 rfl (Nat.le_of_ble_eq_true rfl) rfl ?_
  refine v_iload_n dX6_fits_5 rfl ?_
  refine v_iconst dX6_fits_6 ic_0 ?_
  refine v_iconst dX6_fits_7 ic_1 ?_
  obtain ⟨zr3, zh4, hd⟩ := g_bind hd
  refine v_cS (dy := 0) (st := []) (st2 := [.int zr3]) (h2 := (h_F u)) [] dX6_fits_8 mz_X6_54 (m_P_outside a1 (0 : Int32) (1 : Int32) zh4) rfl rfl rfl rfl rfl rfl (by decide) (by decide) rfl rfl rfl ?_
  refine v_if_eq (tgt := 27) dX6_fits_11 (by decide) (fun zc5 => ?_) (fun zc5 => ?_)
  · have hd := g_t hd zc5
    refine v_loc [1, 2, 0] rfl ?_
    exact v_F_fits_27 u a1 zy1 hd
  · have hd := g_f hd zc5
    refine v_aload_n dX6_fits_14 rfl ?_
    refine v_get (v := .ref 11) dX6_fits_15 fl_X6_19 rfl rfl ?_
    refine v_iload_n dX6_fits_18 rfl ?_
    obtain ⟨zr27, zh28, hd⟩ := g_bind hd
    refine v_cV (dy := 0) (st := []) (st2 := [.int zr27]) (h2 := (h_F u)) [11, 12, 13, 14, 15] dX6_fits_19 mv_X6_129 (m_C_has (sh u 11) zy1 zh28) rfl rfl rfl rfl rfl rfl rfl rfl (by decide) (by decide) rfl rfl rfl ?_
    refine v_if_ne (tgt := 27) dX6_fits_22 (by decide) (fun zc29 => ?_) (fun zc29 => ?_)
    · have hd := g_f hd zc29
      refine v_loc [1, 2, 0] rfl ?_
      exact v_F_fits_27 u a1 zy1 hd
    · have hd := g_t hd zc29
      refine v_iconst dX6_fits_25 ic_m1 ?_
      obtain rfl := Option.some.inj hd
      exact v_iretE dX6_fits_26 rfl rfl rfl rfl
theorem m_F_fits (u : (Nat → Nat → Int32)) (a1 : Int32) {r : Int32 × (Nat → Nat → Int32)} (hd : d_F_fits u a1 = some r) : Mt yX6_fits cX6_fits 9 (some .int) (rm 5) [.ref 0, .int a1] (h_F u) (ab_eq (some (.int r.1)) (h_F r.2)) := Mt.of (by decide +kernel) (fun _ _ _ => trivial) (Nat.le_of_ble_eq_true rfl) (v_F_fits u a1 hd)

def d_F_tallyFitting_100 (k32 : (Nat → Nat → Int32) → Int32 → Int32 → Int32 → Int32 → Option (Int32 × (Nat → Nat → Int32))) (u : (Nat → Nat → Int32)) (x1 : Int32) (x2 : Int32) (x3 : Int32) (x4 : Int32) : Option (Int32 × (Nat → Nat → Int32)) := dl (x4 + (1 : Int32)) fun zy13 => k32 u x1 x2 x3 zy13
set_option maxRecDepth 100000 in
set_option maxHeartbeats 4000000 in
theorem v_F_tallyFitting_100  {r : Int32 × (Nat → Nat → Int32)} (k32 : (Nat → Nat → Int32) → Int32 → Int32 → Int32 → Int32 → Option (Int32 × (Nat → Nat → Int32))) (hk32 : ∀ (u : (Nat → Nat → Int32)) (x1 : Int32) (x2 : Int32) (x3 : Int32) (x4 : Int32), k32 u x1 x2 x3 x4 = some r → Vd RX6 "tallyFitting" cX6_tallyFitting 6 (some .int) (rm 5) (ab_eq (some (.int r.1)) (h_F r.2)) 0 0 0 0 32 [(0, .ref 0), (1, .int x1), (2, .int x2), (3, .int x3), (4, .int x4)] [] (h_F u)) (u : (Nat → Nat → Int32)) (x1 : Int32) (x2 : Int32) (x3 : Int32) (x4 : Int32) (hd : d_F_tallyFitting_100 k32 u x1 x2 x3 x4 = some r) : Vd RX6 "tallyFitting" cX6_tallyFitting 6 (some .int) (rm 5) (ab_eq (some (.int r.1)) (h_F r.2)) 0 0 0 0 100 [(0, .ref 0), (1, .int x1), (2, .int x2), (3, .int x3), (4, .int x4)] [] (h_F u) := by
  unfold d_F_tallyFitting_100 at hd
  obtain ⟨zy13, ze14⟩ : ∃ z : Int32, z = (x4 + (1 : Int32)) := ⟨_, rfl⟩
  have hd := dl_n hd zy13 ze14
  refine v_iinc (v := zy13) (L2 := [(4, .int zy13), (0, .ref 0), (1, .int x1), (2, .int x2), (3, .int x3)]) dX6_tallyFitting_100 rfl (by rw [ic_1]; exact ze14.symm) (Nat.le_of_ble_eq_true rfl) rfl ?_
  refine v_goto (tgt := 32) dX6_tallyFitting_103 (by decide) ?_
  refine v_loc [1, 2, 3, 4, 0] rfl ?_
  exact hk32 u x1 x2 x3 zy13 hd

def d_F_tallyFitting_66 (k32 : (Nat → Nat → Int32) → Int32 → Int32 → Int32 → Int32 → Option (Int32 × (Nat → Nat → Int32))) : Nat → (Nat → Nat → Int32) → Int32 → Int32 → Int32 → Int32 → Int32 → Option (Int32 × (Nat → Nat → Int32))
  | 0, _, _, _, _, _, _ => none
  | f + 1, u, x1, x2, x3, x4, x5 => if x2 ≤ x5 then (d_F_tallyFitting_100 k32 u x1 x2 x3 x4) else (if gi x5 45 = true then if gi ((x5 * (100 : Int32)) + ((u 55) x5.toNatClampNeg)) 4500 = true then if gi ((x5 * (100 : Int32)) + ((u 55) x5.toNatClampNeg)) 4500 = true then dl (((u 56) ((x5 * (100 : Int32)) + ((u 55) x5.toNatClampNeg)).toNatClampNeg) + (1 : Int32)) fun zy21 => dl (x5 + (1 : Int32)) fun zy23 => d_F_tallyFitting_66 k32 f (pw u 56 ((x5 * (100 : Int32)) + ((u 55) x5.toNatClampNeg)).toNatClampNeg zy21) x1 x2 x3 x4 zy23 else none else none else none)
set_option maxRecDepth 100000 in
set_option maxHeartbeats 4000000 in
theorem v_F_tallyFitting_66  {r : Int32 × (Nat → Nat → Int32)} (k32 : (Nat → Nat → Int32) → Int32 → Int32 → Int32 → Int32 → Option (Int32 × (Nat → Nat → Int32))) (hk32 : ∀ (u : (Nat → Nat → Int32)) (x1 : Int32) (x2 : Int32) (x3 : Int32) (x4 : Int32), k32 u x1 x2 x3 x4 = some r → Vd RX6 "tallyFitting" cX6_tallyFitting 6 (some .int) (rm 5) (ab_eq (some (.int r.1)) (h_F r.2)) 0 0 0 0 32 [(0, .ref 0), (1, .int x1), (2, .int x2), (3, .int x3), (4, .int x4)] [] (h_F u)) : ∀ (f : Nat) (u : (Nat → Nat → Int32)) (x1 : Int32) (x2 : Int32) (x3 : Int32) (x4 : Int32) (x5 : Int32), d_F_tallyFitting_66 k32 f u x1 x2 x3 x4 x5 = some r → Vd RX6 "tallyFitting" cX6_tallyFitting 6 (some .int) (rm 5) (ab_eq (some (.int r.1)) (h_F r.2)) 0 0 0 0 66 [(0, .ref 0), (1, .int x1), (2, .int x2), (3, .int x3), (4, .int x4), (5, .int x5)] [] (h_F u) := by
  intro f
  induction f with
  | zero =>
    intro u x1 x2 x3 x4 x5 hd
    rw [d_F_tallyFitting_66] at hd
    cases hd
  | succ f ih =>
    intro u x1 x2 x3 x4 x5 hd
    rw [d_F_tallyFitting_66] at hd
    refine v_iload dX6_tallyFitting_66 rfl ?_
    refine v_iload_n dX6_tallyFitting_68 rfl ?_
    refine v_icmp_ge (tgt := 100) dX6_tallyFitting_69 (by decide) (fun zc17 => ?_) (fun zc17 => ?_)
    · have hd := g_t hd zc17
      refine v_loc [0, 1, 2, 3, 4] rfl ?_
      exact v_F_tallyFitting_100 k32 (hk32) u x1 x2 x3 x4 hd
    · have hd := g_f hd zc17
      refine v_aload_n dX6_tallyFitting_72 rfl ?_
      refine v_get (v := .ref 56) dX6_tallyFitting_73 fl_X6_51 rfl rfl ?_
      refine v_iload dX6_tallyFitting_76 rfl ?_
      refine v_bipush dX6_tallyFitting_78 bp_100 ?_
      refine v_imul dX6_tallyFitting_80 ?_
      refine v_aload_n dX6_tallyFitting_81 rfl ?_
      refine v_get (v := .ref 55) dX6_tallyFitting_82 fl_X6_47 rfl rfl ?_
      refine v_iload dX6_tallyFitting_85 rfl ?_
      obtain ⟨zg18, hd⟩ := g_b hd
      refine v_iald (f := (u 55)) dX6_tallyFitting_87 rfl (gi_in zg18) ?_
      refine v_iadd dX6_tallyFitting_88 ?_
      refine v_dup2 dX6_tallyFitting_89 rfl rfl ?_
      obtain ⟨zg19, hd⟩ := g_b hd
      refine v_iald (f := (u 56)) dX6_tallyFitting_90 rfl (gi_in zg19) ?_
      refine v_iconst dX6_tallyFitting_91 ic_1 ?_
      refine v_iadd dX6_tallyFitting_92 ?_
      obtain ⟨zg20, hd⟩ := g_b hd
      refine v_topi (fun zy21 ze22 => ?_)
      have hd := dl_n hd zy21 ze22
      refine v_ist (f := (u 56)) (h2 := (h_F (pw u 56 ((x5 * (100 : Int32)) + ((u 55) x5.toNatClampNeg)).toNatClampNeg zy21))) dX6_tallyFitting_93 rfl (gi_in zg20) rfl ?_
      obtain ⟨zy23, ze24⟩ : ∃ z : Int32, z = (x5 + (1 : Int32)) := ⟨_, rfl⟩
      have hd := dl_n hd zy23 ze24
      refine v_iinc (v := zy23) (L2 := [(5, .int zy23), (0, .ref 0), (1, .int x1), (2, .int x2), (3, .int x3), (4, .int x4)]) dX6_tallyFitting_94 rfl (by rw [ic_1]; exact ze24.symm) (Nat.le_of_ble_eq_true rfl) rfl ?_
      refine v_goto (tgt := 66) dX6_tallyFitting_97 (by decide) ?_
      refine v_loc [1, 2, 3, 4, 5, 0] rfl ?_
      exact ih (pw u 56 ((x5 * (100 : Int32)) + ((u 55) x5.toNatClampNeg)).toNatClampNeg zy21) x1 x2 x3 x4 zy23 hd

def d_F_tallyFitting_32  : Nat → (Nat → Nat → Int32) → Int32 → Int32 → Int32 → Int32 → Option (Int32 × (Nat → Nat → Int32))
  | 0, _, _, _, _, _ => none
  | f + 1, u, x1, x2, x3, x4 => if x1 ≤ x4 then (some (x3, u)) else ((d_F_tryKinds u x4 (9 : Int32)).bind fun zr8 => (d_GL_agreesWith (sj (sh zr8 21) (sh zr8 55) 4)).bind fun zr10 => if zr10 = 0 then (d_F_tallyFitting_100 (d_F_tallyFitting_32 f) zr8 x1 x2 x3 x4) else (dl (x3 + (1 : Int32)) fun zy15 => d_F_tallyFitting_66 (d_F_tallyFitting_32 f) FU zr8 x1 x2 zy15 x4 (0 : Int32)))
set_option maxRecDepth 100000 in
set_option maxHeartbeats 4000000 in
theorem v_F_tallyFitting_32  {r : Int32 × (Nat → Nat → Int32)}  : ∀ (f : Nat) (u : (Nat → Nat → Int32)) (x1 : Int32) (x2 : Int32) (x3 : Int32) (x4 : Int32), d_F_tallyFitting_32  f u x1 x2 x3 x4 = some r → Vd RX6 "tallyFitting" cX6_tallyFitting 6 (some .int) (rm 5) (ab_eq (some (.int r.1)) (h_F r.2)) 0 0 0 0 32 [(0, .ref 0), (1, .int x1), (2, .int x2), (3, .int x3), (4, .int x4)] [] (h_F u) := by
  intro f
  induction f with
  | zero =>
    intro u x1 x2 x3 x4 hd
    rw [d_F_tallyFitting_32] at hd
    cases hd
  | succ f ih =>
    intro u x1 x2 x3 x4 hd
    rw [d_F_tallyFitting_32] at hd
    refine v_iload dX6_tallyFitting_32 rfl ?_
    refine v_iload_n dX6_tallyFitting_34 rfl ?_
    refine v_icmp_ge (tgt := 106) dX6_tallyFitting_35 (by decide) (fun zc7 => ?_) (fun zc7 => ?_)
    · have hd := g_t hd zc7
      refine v_iload_n dX6_tallyFitting_106 rfl ?_
      obtain rfl := Option.some.inj hd
      exact v_iretE dX6_tallyFitting_107 rfl rfl rfl rfl
    · have hd := g_f hd zc7
      refine v_aload_n dX6_tallyFitting_38 rfl ?_
      refine v_iload dX6_tallyFitting_39 rfl ?_
      refine v_bipush dX6_tallyFitting_41 bp_9 ?_
      obtain ⟨zr8, zh9, hd⟩ := g_bind hd
      refine v_cI (dy := 4) (st := []) (st2 := []) dX6_tallyFitting_43 mv_X6_205 (m_F_tryKinds u x4 (9 : Int32) zh9) rfl rfl rfl rfl rfl (by decide) (by decide) rfl rfl ?_
      refine v_aload_n dX6_tallyFitting_46 rfl ?_
      refine v_get (v := .ref 21) dX6_tallyFitting_47 fl_X6_29 rfl rfl ?_
      refine v_aload_n dX6_tallyFitting_50 rfl ?_
      refine v_get (v := .ref 55) dX6_tallyFitting_51 fl_X6_47 rfl rfl ?_
      obtain ⟨zr10, zh11, hd⟩ := g_bind hd
      refine v_cV (dy := 1) (st := []) (st2 := [.int zr10]) (h2 := (h_F zr8)) [21, 22, 23, 24, 55] dX6_tallyFitting_54 mv_X6_209 (m_GL_agreesWith (sj (sh zr8 21) (sh zr8 55) 4) zh11) rfl rfl rfl rfl rfl rfl rfl rfl (by decide) (by decide) rfl rfl rfl ?_
      refine v_if_eq (tgt := 100) dX6_tallyFitting_57 (by decide) (fun zc12 => ?_) (fun zc12 => ?_)
      · have hd := g_t hd zc12
        exact v_F_tallyFitting_100 (d_F_tallyFitting_32 f) (ih) zr8 x1 x2 x3 x4 hd
      · have hd := g_f hd zc12
        obtain ⟨zy15, ze16⟩ : ∃ z : Int32, z = (x3 + (1 : Int32)) := ⟨_, rfl⟩
        have hd := dl_n hd zy15 ze16
        refine v_iinc (v := zy15) (L2 := [(3, .int zy15), (0, .ref 0), (1, .int x1), (2, .int x2), (4, .int x4)]) dX6_tallyFitting_60 rfl (by rw [ic_1]; exact ze16.symm) (Nat.le_of_ble_eq_true rfl) rfl ?_
        refine v_iconst dX6_tallyFitting_63 ic_0 ?_
        refine v_istore (i := 5) (L2 := [(5, .int (0 : Int32)), (3, .int zy15), (0, .ref 0), (1, .int x1), (2, .int x2), (4, .int x4)]) dX6_tallyFitting_64 (Nat.le_of_ble_eq_true rfl) rfl ?_
        refine v_loc [2, 3, 4, 1, 5, 0] rfl ?_
        exact v_F_tallyFitting_66 (d_F_tallyFitting_32 f) (ih) FU zr8 x1 x2 zy15 x4 (0 : Int32) hd
def d_F_tallyFitting (u : (Nat → Nat → Int32)) : Option (Int32 × (Nat → Nat → Int32)) := (d_A4500_fill (sh u 56) (0 : Int32)).bind fun zr1 => (d_C_allKinds (sh (pt u 56 1 zr1) 11)).bind fun zr3 => dl ((u 11 4) * (9 : Int32)) fun zy5 => d_F_tallyFitting_32 FU (pt u 56 1 zr1) zr3 zy5 (0 : Int32) (0 : Int32)
set_option maxRecDepth 100000 in
set_option maxHeartbeats 4000000 in
theorem v_F_tallyFitting (u : (Nat → Nat → Int32)) {r : Int32 × (Nat → Nat → Int32)} (hd : d_F_tallyFitting u = some r) : Vd RX6 "tallyFitting" cX6_tallyFitting 6 (some .int) (rm 5) (ab_eq (some (.int r.1)) (h_F r.2)) 0 0 0 0 0 [(0, .ref 0)] [] (h_F u) := by
  unfold d_F_tallyFitting at hd
  refine v_aload_n dX6_tallyFitting_0 rfl ?_
  refine v_get (v := .ref 56) dX6_tallyFitting_1 fl_X6_51 rfl rfl ?_
  refine v_iconst dX6_tallyFitting_4 ic_0 ?_
  obtain ⟨zr1, zh2, hd⟩ := g_bind hd
  refine v_cS (dy := 0) (st2 := []) (h2 := (h_F (pt u 56 1 zr1))) [56] dX6_tallyFitting_5 mz_X6_287 (m_A4500_fill (sh u 56) (0 : Int32) zh2) rfl rfl rfl rfl rfl rfl (by decide) (by decide) rfl rfl rfl ?_
  refine v_aload_n dX6_tallyFitting_8 rfl ?_
  refine v_get (v := .ref 11) dX6_tallyFitting_9 fl_X6_19 rfl rfl ?_
  obtain ⟨zr3, zh4, hd⟩ := g_bind hd
  refine v_cV (dy := 0) (st := []) (st2 := [.int zr3]) (h2 := (h_F (pt u 56 1 zr1))) [11, 12, 13, 14, 15] dX6_tallyFitting_12 mv_X6_155 (m_C_allKinds (sh (pt u 56 1 zr1) 11) zh4) rfl rfl rfl rfl rfl rfl rfl rfl (by decide) (by decide) rfl rfl rfl ?_
  refine v_istore_n (i := 1) (L2 := [(1, .int zr3), (0, .ref 0)]) dX6_tallyFitting_15 rfl (Nat.le_of_ble_eq_true rfl) rfl ?_
  refine v_aload_n dX6_tallyFitting_16 rfl ?_
  refine v_get (v := .ref 11) dX6_tallyFitting_17 fl_X6_19 rfl rfl ?_
  refine v_get (v := .int (u 11 4)) dX6_tallyFitting_20 fl_X6_101 rfl rfl ?_
  refine v_bipush dX6_tallyFitting_23 bp_9 ?_
  refine v_imul dX6_tallyFitting_25 ?_
  refine v_topi (fun zy5 ze6 => ?_)
  have hd := dl_n hd zy5 ze6
  refine v_istore_n (i := 2) (L2 := [(2, .int zy5), (1, .int zr3), (0, .ref 0)]) dX6_tallyFitting_26 rfl (Nat.le_of_ble_eq_true rfl) rfl ?_
  refine v_iconst dX6_tallyFitting_27 ic_0 ?_
  refine v_istore_n (i := 3) (L2 := [(3, .int (0 : Int32)), (2, .int zy5), (1, .int zr3), (0, .ref 0)]) dX6_tallyFitting_28 rfl (Nat.le_of_ble_eq_true rfl) rfl ?_
  refine v_iconst dX6_tallyFitting_29 ic_0 ?_
  refine v_istore (i := 4) (L2 := [(4, .int (0 : Int32)), (3, .int (0 : Int32)), (2, .int zy5), (1, .int zr3), (0, .ref 0)]) dX6_tallyFitting_30 (Nat.le_of_ble_eq_true rfl) rfl ?_
  refine v_loc [4, 3, 2, 1, 0] rfl ?_
  exact v_F_tallyFitting_32 FU (pt u 56 1 zr1) zr3 zy5 (0 : Int32) (0 : Int32) hd
theorem m_F_tallyFitting (u : (Nat → Nat → Int32)) {r : Int32 × (Nat → Nat → Int32)} (hd : d_F_tallyFitting u = some r) : Mt yX6_tallyFitting cX6_tallyFitting 6 (some .int) (rm 5) [.ref 0] (h_F u) (ab_eq (some (.int r.1)) (h_F r.2)) := Mt.of (by decide +kernel) (fun _ _ _ => trivial) (Nat.le_of_ble_eq_true rfl) (v_F_tallyFitting u hd)

def d_F_mostInRow_10  : Nat → (Nat → Nat → Int32) → Int32 → Int32 → Int32 → Option Int32
  | 0, _, _, _, _ => none
  | f + 1, u, x2, x3, x4 => if (99 : Int32) < x4 then (some x3) else (if gi (x2 + x4) 4500 = true then (d_P_max x3 ((u 56) (x2 + x4).toNatClampNeg)).bind fun zr5 => dl (x4 + (1 : Int32)) fun zy7 => d_F_mostInRow_10 f u x2 zr5 zy7 else none)
set_option maxRecDepth 100000 in
set_option maxHeartbeats 4000000 in
theorem v_F_mostInRow_10  {r : Int32}  : ∀ (f : Nat) (u : (Nat → Nat → Int32)) (x2 : Int32) (x3 : Int32) (x4 : Int32), d_F_mostInRow_10  f u x2 x3 x4 = some r → Vd RX6 "mostInRow" cX6_mostInRow 5 (some .int) (rm 1) (ab_eq (some (.int r)) (h_F u)) 0 0 0 0 10 [(0, .ref 0), (2, .int x2), (3, .int x3), (4, .int x4)] [] (h_F u) := by
  intro f
  induction f with
  | zero =>
    intro u x2 x3 x4 hd
    rw [d_F_mostInRow_10] at hd
    cases hd
  | succ f ih =>
    intro u x2 x3 x4 hd
    rw [d_F_mostInRow_10] at hd
    refine v_iload dX6_mostInRow_10 rfl ?_
    refine v_bipush dX6_mostInRow_12 bp_99 ?_
    refine v_icmp_gt (tgt := 37) dX6_mostInRow_14 (by decide) (fun zc3 => ?_) (fun zc3 => ?_)
    · have hd := g_t hd zc3
      refine v_iload_n dX6_mostInRow_37 rfl ?_
      obtain rfl := Option.some.inj hd
      exact v_iretE dX6_mostInRow_38 rfl rfl rfl rfl
    · have hd := g_f hd zc3
      refine v_iload_n dX6_mostInRow_17 rfl ?_
      refine v_aload_n dX6_mostInRow_18 rfl ?_
      refine v_get (v := .ref 56) dX6_mostInRow_19 fl_X6_51 rfl rfl ?_
      refine v_iload_n dX6_mostInRow_22 rfl ?_
      refine v_iload dX6_mostInRow_23 rfl ?_
      refine v_iadd dX6_mostInRow_25 ?_
      obtain ⟨zg4, hd⟩ := g_b hd
      refine v_iald (f := (u 56)) dX6_mostInRow_26 rfl (gi_in zg4) ?_
      obtain ⟨zr5, zh6, hd⟩ := g_bind hd
      refine v_cS (dy := 0) (st := []) (st2 := [.int zr5]) (h2 := (h_F u)) [] dX6_mostInRow_27 mz_X6_293 (m_P_max x3 ((u 56) (x2 + x4).toNatClampNeg) zh6) rfl rfl rfl rfl rfl rfl (by decide) (by decide) rfl rfl rfl ?_
      refine v_istore_n (i := 3) (L2 := [(3, .int zr5), (0, .ref 0), (2, .int x2), (4, .int x4)]) dX6_mostInRow_30 rfl (Nat.le_of_ble_eq_true rfl) rfl ?_
      obtain ⟨zy7, ze8⟩ : ∃ z : Int32, z = (x4 + (1 : Int32)) := ⟨_, rfl⟩
      have hd := dl_n hd zy7 ze8
      refine v_iinc (v := zy7) (L2 := [(4, .int zy7), (3, .int zr5), (0, .ref 0), (2, .int x2)]) dX6_mostInRow_31 rfl (by rw [ic_1]; exact ze8.symm) (Nat.le_of_ble_eq_true rfl) rfl ?_
      refine v_goto (tgt := 10) dX6_mostInRow_34 (by decide) ?_
      refine v_loc [2, 3, 1, 0] rfl ?_
      exact ih u x2 zr5 zy7 hd
def d_F_mostInRow (u : (Nat → Nat → Int32)) (a1 : Int32) : Option Int32 := dl (a1 * (100 : Int32)) fun zy1 => d_F_mostInRow_10 FU u zy1 (0 : Int32) (0 : Int32)
set_option maxRecDepth 100000 in
set_option maxHeartbeats 4000000 in
theorem v_F_mostInRow (u : (Nat → Nat → Int32)) (a1 : Int32) {r : Int32} (hd : d_F_mostInRow u a1 = some r) : Vd RX6 "mostInRow" cX6_mostInRow 5 (some .int) (rm 1) (ab_eq (some (.int r)) (h_F u)) 0 0 0 0 0 [(0, .ref 0), (1, .int a1)] [] (h_F u) := by
  unfold d_F_mostInRow at hd
  refine v_iload_n dX6_mostInRow_0 rfl ?_
  refine v_bipush dX6_mostInRow_1 bp_100 ?_
  refine v_imul dX6_mostInRow_3 ?_
  refine v_topi (fun zy1 ze2 => ?_)
  have hd := dl_n hd zy1 ze2
  refine v_istore_n (i := 2) (L2 := [(2, .int zy1), (0, .ref 0), (1, .int a1)]) dX6_mostInRow_4 rfl (Nat.le_of_ble_eq_true rfl) rfl ?_
  refine v_iconst dX6_mostInRow_5 ic_0 ?_
  refine v_istore_n (i := 3) (L2 := [(3, .int (0 : Int32)), (2, .int zy1), (0, .ref 0), (1, .int a1)]) dX6_mostInRow_6 rfl (Nat.le_of_ble_eq_true rfl) rfl ?_
  refine v_iconst dX6_mostInRow_7 ic_0 ?_
  refine v_istore (i := 4) (L2 := [(4, .int (0 : Int32)), (3, .int (0 : Int32)), (2, .int zy1), (0, .ref 0), (1, .int a1)]) dX6_mostInRow_8 (Nat.le_of_ble_eq_true rfl) rfl ?_
  refine v_loc [3, 2, 1, 0] rfl ?_
  exact v_F_mostInRow_10 FU u zy1 (0 : Int32) (0 : Int32) hd
theorem m_F_mostInRow (u : (Nat → Nat → Int32)) (a1 : Int32) {r : Int32} (hd : d_F_mostInRow u a1 = some r) : Mt yX6_mostInRow cX6_mostInRow 5 (some .int) (rm 1) [.ref 0, .int a1] (h_F u) (ab_eq (some (.int r)) (h_F u)) := Mt.of (by decide +kernel) (fun _ _ _ => trivial) (Nat.le_of_ble_eq_true rfl) (v_F_mostInRow u a1 hd)

def d_F_look_75 (k22 : (Nat → Nat → Int32) → Int32 → Int32 → Int32 → Int32 → Option (Int32 × (Nat → Nat → Int32))) (k37 : (Nat → Nat → Int32) → Int32 → Int32 → Int32 → Int32 → Int32 → Option (Int32 × (Nat → Nat → Int32))) (u : (Nat → Nat → Int32)) (x1 : Int32) (x2 : Int32) (x3 : Int32) (x4 : Int32) (x5 : Int32) : Option (Int32 × (Nat → Nat → Int32)) := dl (x5 + (1 : Int32)) fun zy17 => k37 u x1 x2 x3 x4 zy17
set_option maxRecDepth 100000 in
set_option maxHeartbeats 4000000 in
theorem v_F_look_75  {r : Int32 × (Nat → Nat → Int32)} (k22 : (Nat → Nat → Int32) → Int32 → Int32 → Int32 → Int32 → Option (Int32 × (Nat → Nat → Int32))) (hk22 : ∀ (u : (Nat → Nat → Int32)) (x1 : Int32) (x2 : Int32) (x3 : Int32) (x4 : Int32), k22 u x1 x2 x3 x4 = some r → Vd RX6 "look" cX6_look 7 (some .int) (rm 6) (ab_eq (some (.int r.1)) (h_F r.2)) 0 0 0 0 22 [(0, .ref 0), (1, .int x1), (2, .int x2), (3, .int x3), (4, .int x4)] [] (h_F u)) (k37 : (Nat → Nat → Int32) → Int32 → Int32 → Int32 → Int32 → Int32 → Option (Int32 × (Nat → Nat → Int32))) (hk37 : ∀ (u : (Nat → Nat → Int32)) (x1 : Int32) (x2 : Int32) (x3 : Int32) (x4 : Int32) (x5 : Int32), k37 u x1 x2 x3 x4 x5 = some r → Vd RX6 "look" cX6_look 7 (some .int) (rm 6) (ab_eq (some (.int r.1)) (h_F r.2)) 0 0 0 0 37 [(0, .ref 0), (1, .int x1), (2, .int x2), (3, .int x3), (4, .int x4), (5, .int x5)] [] (h_F u)) (u : (Nat → Nat → Int32)) (x1 : Int32) (x2 : Int32) (x3 : Int32) (x4 : Int32) (x5 : Int32) (hd : d_F_look_75 k22 k37 u x1 x2 x3 x4 x5 = some r) : Vd RX6 "look" cX6_look 7 (some .int) (rm 6) (ab_eq (some (.int r.1)) (h_F r.2)) 0 0 0 0 75 [(0, .ref 0), (1, .int x1), (2, .int x2), (3, .int x3), (4, .int x4), (5, .int x5)] [] (h_F u) := by
  unfold d_F_look_75 at hd
  obtain ⟨zy17, ze18⟩ : ∃ z : Int32, z = (x5 + (1 : Int32)) := ⟨_, rfl⟩
  have hd := dl_n hd zy17 ze18
  refine v_iinc (v := zy17) (L2 := [(5, .int zy17), (0, .ref 0), (1, .int x1), (2, .int x2), (3, .int x3), (4, .int x4)]) dX6_look_75 rfl (by rw [ic_1]; exact ze18.symm) (Nat.le_of_ble_eq_true rfl) rfl ?_
  refine v_goto (tgt := 37) dX6_look_78 (by decide) ?_
  refine v_loc [1, 2, 3, 4, 5, 0] rfl ?_
  exact hk37 u x1 x2 x3 x4 zy17 hd

def d_F_look_37 (k22 : (Nat → Nat → Int32) → Int32 → Int32 → Int32 → Int32 → Option (Int32 × (Nat → Nat → Int32))) : Nat → (Nat → Nat → Int32) → Int32 → Int32 → Int32 → Int32 → Int32 → Option (Int32 × (Nat → Nat → Int32))
  | 0, _, _, _, _, _, _ => none
  | f + 1, u, x1, x2, x3, x4, x5 => if (9 : Int32) < x5 then (dl (x4 + (1 : Int32)) fun zy10 => k22 u x1 x2 x3 zy10) else ((d_P_slot x4 x5).bind fun zr12 => (d_F_mostInRow u zr12).bind fun zr14 => if x2 ≤ zr14 then (d_F_look_75 k22 (d_F_look_37 k22 f) u x1 x2 x3 x4 x5) else (dl (((10 : Int32) * x4) + x5) fun zy19 => d_F_look_75 k22 (d_F_look_37 k22 f) u x1 zr14 zy19 x4 x5))
set_option maxRecDepth 100000 in
set_option maxHeartbeats 4000000 in
theorem v_F_look_37  {r : Int32 × (Nat → Nat → Int32)} (k22 : (Nat → Nat → Int32) → Int32 → Int32 → Int32 → Int32 → Option (Int32 × (Nat → Nat → Int32))) (hk22 : ∀ (u : (Nat → Nat → Int32)) (x1 : Int32) (x2 : Int32) (x3 : Int32) (x4 : Int32), k22 u x1 x2 x3 x4 = some r → Vd RX6 "look" cX6_look 7 (some .int) (rm 6) (ab_eq (some (.int r.1)) (h_F r.2)) 0 0 0 0 22 [(0, .ref 0), (1, .int x1), (2, .int x2), (3, .int x3), (4, .int x4)] [] (h_F u)) : ∀ (f : Nat) (u : (Nat → Nat → Int32)) (x1 : Int32) (x2 : Int32) (x3 : Int32) (x4 : Int32) (x5 : Int32), d_F_look_37 k22 f u x1 x2 x3 x4 x5 = some r → Vd RX6 "look" cX6_look 7 (some .int) (rm 6) (ab_eq (some (.int r.1)) (h_F r.2)) 0 0 0 0 37 [(0, .ref 0), (1, .int x1), (2, .int x2), (3, .int x3), (4, .int x4), (5, .int x5)] [] (h_F u) := by
  intro f
  induction f with
  | zero =>
    intro u x1 x2 x3 x4 x5 hd
    rw [d_F_look_37] at hd
    cases hd
  | succ f ih =>
    intro u x1 x2 x3 x4 x5 hd
    rw [d_F_look_37] at hd
    refine v_iload dX6_look_37 rfl ?_
    refine v_bipush dX6_look_39 bp_9 ?_
    refine v_icmp_gt (tgt := 81) dX6_look_41 (by decide) (fun zc9 => ?_) (fun zc9 => ?_)
    · have hd := g_t hd zc9
      obtain ⟨zy10, ze11⟩ : ∃ z : Int32, z = (x4 + (1 : Int32)) := ⟨_, rfl⟩
      have hd := dl_n hd zy10 ze11
      refine v_iinc (v := zy10) (L2 := [(4, .int zy10), (0, .ref 0), (1, .int x1), (2, .int x2), (3, .int x3), (5, .int x5)]) dX6_look_81 rfl (by rw [ic_1]; exact ze11.symm) (Nat.le_of_ble_eq_true rfl) rfl ?_
      refine v_goto (tgt := 22) dX6_look_84 (by decide) ?_
      refine v_loc [1, 2, 3, 4, 0] rfl ?_
      exact hk22 u x1 x2 x3 zy10 hd
    · have hd := g_f hd zc9
      refine v_aload_n dX6_look_44 rfl ?_
      refine v_iload dX6_look_45 rfl ?_
      refine v_iload dX6_look_47 rfl ?_
      obtain ⟨zr12, zh13, hd⟩ := g_bind hd
      refine v_cS (dy := 0) (st := [.ref 0]) (st2 := [.int zr12, .ref 0]) (h2 := (h_F u)) [] dX6_look_49 mz_X6_216 (m_P_slot x4 x5 zh13) rfl rfl rfl rfl rfl rfl (by decide) (by decide) rfl rfl rfl ?_
      obtain ⟨zr14, zh15, hd⟩ := g_bind hd
      refine v_cI (dy := 1) (st := []) (st2 := [.int zr14]) dX6_look_52 mv_X6_219 (m_F_mostInRow u zr12 zh15) rfl rfl rfl rfl rfl (by decide) (by decide) rfl rfl ?_
      refine v_istore (i := 6) (L2 := [(6, .int zr14), (0, .ref 0), (1, .int x1), (2, .int x2), (3, .int x3), (4, .int x4), (5, .int x5)]) dX6_look_55 (Nat.le_of_ble_eq_true rfl) rfl ?_
      refine v_iload dX6_look_57 rfl ?_
      refine v_iload_n dX6_look_59 rfl ?_
      refine v_icmp_ge (tgt := 75) dX6_look_60 (by decide) (fun zc16 => ?_) (fun zc16 => ?_)
      · have hd := g_t hd zc16
        refine v_loc [1, 2, 3, 4, 5, 6] rfl ?_
        exact v_F_look_75 k22 (hk22) (d_F_look_37 k22 f) (ih) u x1 x2 x3 x4 x5 hd
      · have hd := g_f hd zc16
        refine v_iload dX6_look_63 rfl ?_
        refine v_istore_n (i := 2) (L2 := [(2, .int zr14), (6, .int zr14), (0, .ref 0), (1, .int x1), (3, .int x3), (4, .int x4), (5, .int x5)]) dX6_look_65 rfl (Nat.le_of_ble_eq_true rfl) rfl ?_
        refine v_bipush dX6_look_66 bp_10 ?_
        refine v_iload dX6_look_68 rfl ?_
        refine v_imul dX6_look_70 ?_
        refine v_iload dX6_look_71 rfl ?_
        refine v_iadd dX6_look_73 ?_
        refine v_topi (fun zy19 ze20 => ?_)
        have hd := dl_n hd zy19 ze20
        refine v_istore_n (i := 3) (L2 := [(3, .int zy19), (2, .int zr14), (6, .int zr14), (0, .ref 0), (1, .int x1), (4, .int x4), (5, .int x5)]) dX6_look_74 rfl (Nat.le_of_ble_eq_true rfl) rfl ?_
        refine v_loc [3, 4, 1, 0, 5, 6] rfl ?_
        exact v_F_look_75 k22 (hk22) (d_F_look_37 k22 f) (ih) u x1 zr14 zy19 x4 x5 hd

def d_F_look_22  : Nat → (Nat → Nat → Int32) → Int32 → Int32 → Int32 → Int32 → Option (Int32 × (Nat → Nat → Int32))
  | 0, _, _, _, _, _ => none
  | f + 1, u, x1, x2, x3, x4 => if (u 11 4) ≤ x4 then (if x3 = (-4 : Int32) then (some ((-4 : Int32), u)) else (if x1 = 0 then (some (x3, u)) else (some (x2, u)))) else (d_F_look_37 (d_F_look_22 f) FU u x1 x2 x3 x4 (1 : Int32))
set_option maxRecDepth 100000 in
set_option maxHeartbeats 4000000 in
theorem v_F_look_22  {r : Int32 × (Nat → Nat → Int32)}  : ∀ (f : Nat) (u : (Nat → Nat → Int32)) (x1 : Int32) (x2 : Int32) (x3 : Int32) (x4 : Int32), d_F_look_22  f u x1 x2 x3 x4 = some r → Vd RX6 "look" cX6_look 7 (some .int) (rm 6) (ab_eq (some (.int r.1)) (h_F r.2)) 0 0 0 0 22 [(0, .ref 0), (1, .int x1), (2, .int x2), (3, .int x3), (4, .int x4)] [] (h_F u) := by
  intro f
  induction f with
  | zero =>
    intro u x1 x2 x3 x4 hd
    rw [d_F_look_22] at hd
    cases hd
  | succ f ih =>
    intro u x1 x2 x3 x4 hd
    rw [d_F_look_22] at hd
    refine v_iload dX6_look_22 rfl ?_
    refine v_aload_n dX6_look_24 rfl ?_
    refine v_get (v := .ref 11) dX6_look_25 fl_X6_19 rfl rfl ?_
    refine v_get (v := .int (u 11 4)) dX6_look_28 fl_X6_101 rfl rfl ?_
    refine v_icmp_ge (tgt := 87) dX6_look_31 (by decide) (fun zc6 => ?_) (fun zc6 => ?_)
    · have hd := g_t hd zc6
      refine v_iload_n dX6_look_87 rfl ?_
      refine v_bipush dX6_look_88 bp_m4 ?_
      refine v_icmp_ne (tgt := 96) dX6_look_90 (by decide) (fun zc7 => ?_) (fun zc7 => ?_)
      · have hd := g_f hd zc7
        refine v_iload_n dX6_look_96 rfl ?_
        refine v_if_ne (tgt := 104) dX6_look_97 (by decide) (fun zc8 => ?_) (fun zc8 => ?_)
        · have hd := g_f hd zc8
          refine v_iload_n dX6_look_104 rfl ?_
          obtain rfl := Option.some.inj hd
          exact v_iretE dX6_look_105 rfl rfl rfl rfl
        · have hd := g_t hd zc8
          refine v_iload_n dX6_look_100 rfl ?_
          refine v_goto (tgt := 105) dX6_look_101 (by decide) ?_
          obtain rfl := Option.some.inj hd
          exact v_iretE dX6_look_105 rfl rfl rfl rfl
      · have hd := g_t hd zc7
        refine v_bipush dX6_look_93 bp_m4 ?_
        obtain rfl := Option.some.inj hd
        exact v_iretE dX6_look_95 rfl rfl rfl rfl
    · have hd := g_f hd zc6
      refine v_iconst dX6_look_34 ic_1 ?_
      refine v_istore (i := 5) (L2 := [(5, .int (1 : Int32)), (0, .ref 0), (1, .int x1), (2, .int x2), (3, .int x3), (4, .int x4)]) dX6_look_35 (Nat.le_of_ble_eq_true rfl) rfl ?_
      refine v_loc [1, 2, 3, 4, 5, 0] rfl ?_
      exact v_F_look_37 (d_F_look_22 f) (ih) FU u x1 x2 x3 x4 (1 : Int32) hd
def d_F_look (u : (Nat → Nat → Int32)) (a1 : Int32) : Option (Int32 × (Nat → Nat → Int32)) := (d_P_outside a1 (0 : Int32) (1 : Int32)).bind fun zr1 => if zr1 = 0 then ((d_F_tallyFitting u).bind fun zr4 => d_F_look_22 FU zr4.2 a1 zr4.1 (-4 : Int32) (0 : Int32)) else (some ((-1 : Int32), u))
set_option maxRecDepth 100000 in
set_option maxHeartbeats 4000000 in
theorem v_F_look (u : (Nat → Nat → Int32)) (a1 : Int32) {r : Int32 × (Nat → Nat → Int32)} (hd : d_F_look u a1 = some r) : Vd RX6 "look" cX6_look 7 (some .int) (rm 6) (ab_eq (some (.int r.1)) (h_F r.2)) 0 0 0 0 0 [(0, .ref 0), (1, .int a1)] [] (h_F u) := by
  unfold d_F_look at hd
  refine v_iload_n dX6_look_0 rfl ?_
  refine v_iconst dX6_look_1 ic_0 ?_
  refine v_iconst dX6_look_2 ic_1 ?_
  obtain ⟨zr1, zh2, hd⟩ := g_bind hd
  refine v_cS (dy := 0) (st := []) (st2 := [.int zr1]) (h2 := (h_F u)) [] dX6_look_3 mz_X6_54 (m_P_outside a1 (0 : Int32) (1 : Int32) zh2) rfl rfl rfl rfl rfl rfl (by decide) (by decide) rfl rfl rfl ?_
  refine v_if_eq (tgt := 11) dX6_look_6 (by decide) (fun zc3 => ?_) (fun zc3 => ?_)
  · have hd := g_t hd zc3
    refine v_aload_n dX6_look_11 rfl ?_
    obtain ⟨zr4, zh5, hd⟩ := g_bind hd
    refine v_cI (dy := 5) (st := []) (st2 := [.int zr4.1]) dX6_look_12 mv_X6_213 (m_F_tallyFitting u zh5) rfl rfl rfl rfl rfl (by decide) (by decide) rfl rfl ?_
    refine v_istore_n (i := 2) (L2 := [(2, .int zr4.1), (0, .ref 0), (1, .int a1)]) dX6_look_15 rfl (Nat.le_of_ble_eq_true rfl) rfl ?_
    refine v_bipush dX6_look_16 bp_m4 ?_
    refine v_istore_n (i := 3) (L2 := [(3, .int (-4 : Int32)), (2, .int zr4.1), (0, .ref 0), (1, .int a1)]) dX6_look_18 rfl (Nat.le_of_ble_eq_true rfl) rfl ?_
    refine v_iconst dX6_look_19 ic_0 ?_
    refine v_istore (i := 4) (L2 := [(4, .int (0 : Int32)), (3, .int (-4 : Int32)), (2, .int zr4.1), (0, .ref 0), (1, .int a1)]) dX6_look_20 (Nat.le_of_ble_eq_true rfl) rfl ?_
    refine v_loc [3, 4, 2, 1, 0] rfl ?_
    exact v_F_look_22 FU zr4.2 a1 zr4.1 (-4 : Int32) (0 : Int32) hd
  · have hd := g_f hd zc3
    refine v_iconst dX6_look_9 ic_m1 ?_
    obtain rfl := Option.some.inj hd
    exact v_iretE dX6_look_10 rfl rfl rfl rfl
theorem m_F_look (u : (Nat → Nat → Int32)) (a1 : Int32) {r : Int32 × (Nat → Nat → Int32)} (hd : d_F_look u a1 = some r) : Mt yX6_look cX6_look 7 (some .int) (rm 6) [.ref 0, .int a1] (h_F u) (ab_eq (some (.int r.1)) (h_F r.2)) := Mt.of (by decide +kernel) (fun _ _ _ => trivial) (Nat.le_of_ble_eq_true rfl) (v_F_look u a1 hd)

def d_F_drift_109 (k44 : (Nat → Nat → Int32) → Int32 → Int32 → Int32 → Int32 → Option (Int32 × (Nat → Nat → Int32))) (u : (Nat → Nat → Int32)) (x2 : Int32) (x3 : Int32) (x4 : Int32) (x5 : Int32) : Option (Int32 × (Nat → Nat → Int32)) := dl (x5 + (1 : Int32)) fun zy19 => k44 u x2 x3 x4 zy19
set_option maxRecDepth 100000 in
set_option maxHeartbeats 4000000 in
theorem v_F_drift_109  {r : Int32 × (Nat → Nat → Int32)} (k44 : (Nat → Nat → Int32) → Int32 → Int32 → Int32 → Int32 → Option (Int32 × (Nat → Nat → Int32))) (hk44 : ∀ (u : (Nat → Nat → Int32)) (x2 : Int32) (x3 : Int32) (x4 : Int32) (x5 : Int32), k44 u x2 x3 x4 x5 = some r → Vd RX6 "drift" cX6_drift 7 (some .int) (rm 3) (ab_eq (some (.int r.1)) (h_F r.2)) 0 0 0 0 44 [(0, .ref 0), (2, .int x2), (3, .int x3), (4, .int x4), (5, .int x5)] [] (h_F u)) (u : (Nat → Nat → Int32)) (x2 : Int32) (x3 : Int32) (x4 : Int32) (x5 : Int32) (hd : d_F_drift_109 k44 u x2 x3 x4 x5 = some r) : Vd RX6 "drift" cX6_drift 7 (some .int) (rm 3) (ab_eq (some (.int r.1)) (h_F r.2)) 0 0 0 0 109 [(0, .ref 0), (2, .int x2), (3, .int x3), (4, .int x4), (5, .int x5)] [] (h_F u) := by
  unfold d_F_drift_109 at hd
  obtain ⟨zy19, ze20⟩ : ∃ z : Int32, z = (x5 + (1 : Int32)) := ⟨_, rfl⟩
  have hd := dl_n hd zy19 ze20
  refine v_iinc (v := zy19) (L2 := [(5, .int zy19), (0, .ref 0), (2, .int x2), (3, .int x3), (4, .int x4)]) dX6_drift_109 rfl (by rw [ic_1]; exact ze20.symm) (Nat.le_of_ble_eq_true rfl) rfl ?_
  refine v_goto (tgt := 44) dX6_drift_112 (by decide) ?_
  refine v_loc [1, 2, 3, 4, 0] rfl ?_
  exact hk44 u x2 x3 x4 zy19 hd

def d_F_drift_44  : Nat → (Nat → Nat → Int32) → Int32 → Int32 → Int32 → Int32 → Option (Int32 × (Nat → Nat → Int32))
  | 0, _, _, _, _, _ => none
  | f + 1, u, x2, x3, x4, x5 => if x2 ≤ x5 then (if x3 = 0 then (some ((u 16 10), u)) else ((d_C_allWorth (sh u 16)).bind fun zr12 => some (zr12, u))) else (dl ((x4 * (1103515245 : Int32)) + (12345 : Int32)) fun zy14 => dl ((zy14.toUInt32 >>> ((16 : Int32).toUInt32 &&& Int32.toUInt32 31)).toInt32 &&& (32767 : Int32)) fun zy16 => if (zy16 - zy16 / (8 : Int32) * (8 : Int32)) < (2 : Int32) then (d_F_drift_109 (d_F_drift_44 f) u x2 x3 zy14 x5) else ((d_C_putKind (sh u 16) (u 16 5) ((zy16 / (8 : Int32)) - (zy16 / (8 : Int32)) / (4 : Int32) * (4 : Int32))).bind fun zr21 => (d_C_ask (sh (pt u 16 5 zr21) 16)).bind fun zr23 => d_F_drift_109 (d_F_drift_44 f) (pt (pt u 16 5 zr21) 16 5 zr23) x2 x3 zy14 x5))
set_option maxRecDepth 100000 in
set_option maxHeartbeats 4000000 in
theorem v_F_drift_44  {r : Int32 × (Nat → Nat → Int32)}  : ∀ (f : Nat) (u : (Nat → Nat → Int32)) (x2 : Int32) (x3 : Int32) (x4 : Int32) (x5 : Int32), d_F_drift_44  f u x2 x3 x4 x5 = some r → Vd RX6 "drift" cX6_drift 7 (some .int) (rm 3) (ab_eq (some (.int r.1)) (h_F r.2)) 0 0 0 0 44 [(0, .ref 0), (2, .int x2), (3, .int x3), (4, .int x4), (5, .int x5)] [] (h_F u) := by
  intro f
  induction f with
  | zero =>
    intro u x2 x3 x4 x5 hd
    rw [d_F_drift_44] at hd
    cases hd
  | succ f ih =>
    intro u x2 x3 x4 x5 hd
    rw [d_F_drift_44] at hd
    refine v_iload dX6_drift_44 rfl ?_
    refine v_iload_n dX6_drift_46 rfl ?_
    refine v_icmp_ge (tgt := 115) dX6_drift_47 (by decide) (fun zc10 => ?_) (fun zc10 => ?_)
    · have hd := g_t hd zc10
      refine v_iload_n dX6_drift_115 rfl ?_
      refine v_if_ne (tgt := 129) dX6_drift_116 (by decide) (fun zc11 => ?_) (fun zc11 => ?_)
      · have hd := g_f hd zc11
        refine v_aload_n dX6_drift_129 rfl ?_
        refine v_get (v := .ref 16) dX6_drift_130 fl_X6_23 rfl rfl ?_
        obtain ⟨zr12, zh13, hd⟩ := g_bind hd
        refine v_cV (dy := 0) (st := []) (st2 := [.int zr12]) (h2 := (h_F u)) [16, 17, 18, 19, 20] dX6_drift_133 mv_X6_125 (m_C_allWorth (sh u 16) zh13) rfl rfl rfl rfl rfl rfl rfl rfl (by decide) (by decide) rfl rfl rfl ?_
        obtain rfl := Option.some.inj hd
        exact v_iretE dX6_drift_136 rfl rfl rfl rfl
      · have hd := g_t hd zc11
        refine v_aload_n dX6_drift_119 rfl ?_
        refine v_get (v := .ref 16) dX6_drift_120 fl_X6_23 rfl rfl ?_
        refine v_get (v := .int (u 16 10)) dX6_drift_123 fl_X6_119 rfl rfl ?_
        refine v_goto (tgt := 136) dX6_drift_126 (by decide) ?_
        obtain rfl := Option.some.inj hd
        exact v_iretE dX6_drift_136 rfl rfl rfl rfl
    · have hd := g_f hd zc10
      refine v_iload dX6_drift_50 rfl ?_
      refine v_ldc dX6_drift_52 kc_X6_222 ?_
      refine v_imul dX6_drift_54 ?_
      refine v_sipush dX6_drift_55 sp_12345 ?_
      refine v_iadd dX6_drift_58 ?_
      refine v_topi (fun zy14 ze15 => ?_)
      have hd := dl_n hd zy14 ze15
      refine v_istore (i := 4) (L2 := [(4, .int zy14), (0, .ref 0), (2, .int x2), (3, .int x3), (5, .int x5)]) dX6_drift_59 (Nat.le_of_ble_eq_true rfl) rfl ?_
      refine v_iload dX6_drift_61 rfl ?_
      refine v_bipush dX6_drift_63 bp_16 ?_
      refine v_iushr dX6_drift_65 ?_
      refine v_sipush dX6_drift_66 sp_32767 ?_
      refine v_iand dX6_drift_69 ?_
      refine v_topi (fun zy16 ze17 => ?_)
      have hd := dl_n hd zy16 ze17
      refine v_istore (i := 6) (L2 := [(6, .int zy16), (4, .int zy14), (0, .ref 0), (2, .int x2), (3, .int x3), (5, .int x5)]) dX6_drift_70 (Nat.le_of_ble_eq_true rfl) rfl ?_
      refine v_iload dX6_drift_72 rfl ?_
      refine v_bipush dX6_drift_74 bp_8 ?_
      refine v_irem dX6_drift_76 nz_8 ?_
      refine v_iconst dX6_drift_77 ic_2 ?_
      refine v_icmp_lt (tgt := 109) dX6_drift_78 (by decide) (fun zc18 => ?_) (fun zc18 => ?_)
      · have hd := g_t hd zc18
        refine v_loc [2, 3, 4, 1, 5] rfl ?_
        exact v_F_drift_109 (d_F_drift_44 f) (ih) u x2 x3 zy14 x5 hd
      · have hd := g_f hd zc18
        refine v_aload_n dX6_drift_81 rfl ?_
        refine v_get (v := .ref 16) dX6_drift_82 fl_X6_23 rfl rfl ?_
        refine v_aload_n dX6_drift_85 rfl ?_
        refine v_get (v := .ref 16) dX6_drift_86 fl_X6_23 rfl rfl ?_
        refine v_get (v := .int (u 16 5)) dX6_drift_89 fl_X6_104 rfl rfl ?_
        refine v_iload dX6_drift_92 rfl ?_
        refine v_bipush dX6_drift_94 bp_8 ?_
        refine v_idiv dX6_drift_96 nz_8 ?_
        refine v_iconst dX6_drift_97 ic_4 ?_
        refine v_irem dX6_drift_98 nz_4 ?_
        obtain ⟨zr21, zh22, hd⟩ := g_bind hd
        refine v_cV (dy := 1) (st := []) (st2 := []) (h2 := (h_F (pt u 16 5 zr21))) [16, 17, 18, 19, 20] dX6_drift_99 mv_X6_223 (m_C_putKind (sh u 16) (u 16 5) ((zy16 / (8 : Int32)) - (zy16 / (8 : Int32)) / (4 : Int32) * (4 : Int32)) zh22) rfl rfl rfl rfl rfl rfl rfl rfl (by decide) (by decide) rfl rfl rfl ?_
        refine v_aload_n dX6_drift_102 rfl ?_
        refine v_get (v := .ref 16) dX6_drift_103 fl_X6_23 rfl rfl ?_
        obtain ⟨zr23, zh24, hd⟩ := g_bind hd
        refine v_cV (dy := 2) (st := []) (st2 := []) (h2 := (h_F (pt (pt u 16 5 zr21) 16 5 zr23))) [16, 17, 18, 19, 20] dX6_drift_106 mv_X6_226 (m_C_ask (sh (pt u 16 5 zr21) 16) zh24) rfl rfl rfl rfl rfl rfl rfl rfl (by decide) (by decide) rfl rfl rfl ?_
        refine v_loc [2, 3, 4, 1, 5] rfl ?_
        exact v_F_drift_109 (d_F_drift_44 f) (ih) (pt (pt u 16 5 zr21) 16 5 zr23) x2 x3 zy14 x5 hd
def d_F_drift (u : (Nat → Nat → Int32)) (a1 : Int32) (a2 : Int32) (a3 : Int32) : Option (Int32 × (Nat → Nat → Int32)) := (d_P_outside a2 (1 : Int32) (60 : Int32)).bind fun zr1 => if zr1 = 0 then ((d_P_outside a3 (0 : Int32) (1 : Int32)).bind fun zr4 => if zr4 = 0 then (if (u 11 4) = 0 then (some ((-2 : Int32), u)) else ((d_F_startTrial u).bind fun zr8 => d_F_drift_44 FU zr8 a2 a3 a1 (0 : Int32))) else (some ((-1 : Int32), u))) else (some ((-1 : Int32), u))
set_option maxRecDepth 100000 in
set_option maxHeartbeats 4000000 in
theorem v_F_drift (u : (Nat → Nat → Int32)) (a1 : Int32) (a2 : Int32) (a3 : Int32) {r : Int32 × (Nat → Nat → Int32)} (hd : d_F_drift u a1 a2 a3 = some r) : Vd RX6 "drift" cX6_drift 7 (some .int) (rm 3) (ab_eq (some (.int r.1)) (h_F r.2)) 0 0 0 0 0 [(0, .ref 0), (1, .int a1), (2, .int a2), (3, .int a3)] [] (h_F u) := by
  unfold d_F_drift at hd
  refine v_iload_n dX6_drift_0 rfl ?_
  refine v_iconst dX6_drift_1 ic_1 ?_
  refine v_bipush dX6_drift_2 bp_60 ?_
  obtain ⟨zr1, zh2, hd⟩ := g_bind hd
  refine v_cS (dy := 0) (st := []) (st2 := [.int zr1]) (h2 := (h_F u)) [] dX6_drift_4 mz_X6_54 (m_P_outside a2 (1 : Int32) (60 : Int32) zh2) rfl rfl rfl rfl rfl rfl (by decide) (by decide) rfl rfl rfl ?_
  refine v_if_ne (tgt := 19) dX6_drift_7 (by decide) (fun zc3 => ?_) (fun zc3 => ?_)
  · have hd := g_f hd zc3
    refine v_iconst dX6_drift_19 ic_m1 ?_
    obtain rfl := Option.some.inj hd
    exact v_iretE dX6_drift_20 rfl rfl rfl rfl
  · have hd := g_t hd zc3
    refine v_iload_n dX6_drift_10 rfl ?_
    refine v_iconst dX6_drift_11 ic_0 ?_
    refine v_iconst dX6_drift_12 ic_1 ?_
    obtain ⟨zr4, zh5, hd⟩ := g_bind hd
    refine v_cS (dy := 0) (st := []) (st2 := [.int zr4]) (h2 := (h_F u)) [] dX6_drift_13 mz_X6_54 (m_P_outside a3 (0 : Int32) (1 : Int32) zh5) rfl rfl rfl rfl rfl rfl (by decide) (by decide) rfl rfl rfl ?_
    refine v_if_eq (tgt := 21) dX6_drift_16 (by decide) (fun zc6 => ?_) (fun zc6 => ?_)
    · have hd := g_t hd zc6
      refine v_aload_n dX6_drift_21 rfl ?_
      refine v_get (v := .ref 11) dX6_drift_22 fl_X6_19 rfl rfl ?_
      refine v_get (v := .int (u 11 4)) dX6_drift_25 fl_X6_101 rfl rfl ?_
      refine v_if_ne (tgt := 34) dX6_drift_28 (by decide) (fun zc7 => ?_) (fun zc7 => ?_)
      · have hd := g_f hd zc7
        refine v_aload_n dX6_drift_34 rfl ?_
        obtain ⟨zr8, zh9, hd⟩ := g_bind hd
        refine v_cI (dy := 2) (st := []) (st2 := []) dX6_drift_35 mv_X6_149 (m_F_startTrial u zh9) rfl rfl rfl rfl rfl (by decide) (by decide) rfl rfl ?_
        refine v_iload_n dX6_drift_38 rfl ?_
        refine v_istore (i := 4) (L2 := [(4, .int a1), (0, .ref 0), (1, .int a1), (2, .int a2), (3, .int a3)]) dX6_drift_39 (Nat.le_of_ble_eq_true rfl) rfl ?_
        refine v_iconst dX6_drift_41 ic_0 ?_
        refine v_istore (i := 5) (L2 := [(5, .int (0 : Int32)), (4, .int a1), (0, .ref 0), (1, .int a1), (2, .int a2), (3, .int a3)]) dX6_drift_42 (Nat.le_of_ble_eq_true rfl) rfl ?_
        refine v_loc [2, 4, 5, 1, 0] rfl ?_
        exact v_F_drift_44 FU zr8 a2 a3 a1 (0 : Int32) hd
      · have hd := g_t hd zc7
        refine v_bipush dX6_drift_31 bp_m2 ?_
        obtain rfl := Option.some.inj hd
        exact v_iretE dX6_drift_33 rfl rfl rfl rfl
    · have hd := g_f hd zc6
      refine v_iconst dX6_drift_19 ic_m1 ?_
      obtain rfl := Option.some.inj hd
      exact v_iretE dX6_drift_20 rfl rfl rfl rfl
theorem m_F_drift (u : (Nat → Nat → Int32)) (a1 : Int32) (a2 : Int32) (a3 : Int32) {r : Int32 × (Nat → Nat → Int32)} (hd : d_F_drift u a1 a2 a3 = some r) : Mt yX6_drift cX6_drift 7 (some .int) (rm 3) [.ref 0, .int a1, .int a2, .int a3] (h_F u) (ab_eq (some (.int r.1)) (h_F r.2)) := Mt.of (by decide +kernel) (fun _ _ _ => trivial) (Nat.le_of_ble_eq_true rfl) (v_F_drift u a1 a2 a3 hd)

def d_F_keep_30  (u : (Nat → Nat → Int32)) (s0 : Int32) : Option (Int32 × (Nat → Nat → Int32)) := (d_CC_becomeLike (sj (sh (pw u 26 2 (1 : Int32)) 27) (sh (pw u 26 2 (1 : Int32)) 11) 5)).bind fun zr6 => (d_GG_becomeLike (sj (sh (pt (pt (pw u 26 2 (1 : Int32)) 27 5 zr6) 11 5 (sh zr6 5)) 32) (sh (pt (pt (pw u 26 2 (1 : Int32)) 27 5 zr6) 11 5 (sh zr6 5)) 21) 4)).bind fun zr8 => some (s0, (pt (pt (pt (pt (pw u 26 2 (1 : Int32)) 27 5 zr6) 11 5 (sh zr6 5)) 32 4 zr8) 21 4 (sh zr8 4)))
set_option maxRecDepth 100000 in
set_option maxHeartbeats 4000000 in
theorem v_F_keep_30  {r : Int32 × (Nat → Nat → Int32)}  (u : (Nat → Nat → Int32)) (s0 : Int32) (hd : d_F_keep_30  u s0 = some r) : Vd RX6 "keep" cX6_keep 4 (some .int) (rm 2) (ab_eq (some (.int r.1)) (h_F r.2)) 0 0 0 0 30 [(0, .ref 0), (2, .ref 26)] [.int s0] (h_F u) := by
  unfold d_F_keep_30 at hd
  refine v_istore_n (i := 3) (L2 := [(3, .int s0), (0, .ref 0), (2, .ref 26)]) dX6_keep_30 rfl (Nat.le_of_ble_eq_true rfl) rfl ?_
  refine v_aload_n dX6_keep_31 rfl ?_
  refine v_iconst dX6_keep_32 ic_1 ?_
  refine v_ptz (h2 := (h_F (pw u 26 2 (1 : Int32)))) dX6_keep_33 fl_X6_94 rfl (Or.inr rfl) (Nat.le_of_ble_eq_true rfl) rfl ?_
  refine v_aload_n dX6_keep_36 rfl ?_
  refine v_get (v := .ref 27) dX6_keep_37 fl_X6_229 rfl rfl ?_
  refine v_aload_n dX6_keep_40 rfl ?_
  refine v_get (v := .ref 11) dX6_keep_41 fl_X6_19 rfl rfl ?_
  obtain ⟨zr6, zh7, hd⟩ := g_bind hd
  refine v_cV (dy := 1) (st := []) (st2 := []) (h2 := (h_F (pt (pt (pw u 26 2 (1 : Int32)) 27 5 zr6) 11 5 (sh zr6 5)))) [27, 28, 29, 30, 31, 11, 12, 13, 14, 15] dX6_keep_44 mv_X6_87 (m_CC_becomeLike (sj (sh (pw u 26 2 (1 : Int32)) 27) (sh (pw u 26 2 (1 : Int32)) 11) 5) zh7) rfl rfl rfl rfl rfl rfl rfl rfl (by decide) (by decide) rfl rfl rfl ?_
  refine v_aload_n dX6_keep_47 rfl ?_
  refine v_get (v := .ref 32) dX6_keep_48 fl_X6_232 rfl rfl ?_
  refine v_aload_n dX6_keep_51 rfl ?_
  refine v_get (v := .ref 21) dX6_keep_52 fl_X6_29 rfl rfl ?_
  obtain ⟨zr8, zh9, hd⟩ := g_bind hd
  refine v_cV (dy := 1) (st := []) (st2 := []) (h2 := (h_F (pt (pt (pt (pt (pw u 26 2 (1 : Int32)) 27 5 zr6) 11 5 (sh zr6 5)) 32 4 zr8) 21 4 (sh zr8 4)))) [32, 33, 34, 35, 21, 22, 23, 24] dX6_keep_55 mv_X6_233 (m_GG_becomeLike (sj (sh (pt (pt (pw u 26 2 (1 : Int32)) 27 5 zr6) 11 5 (sh zr6 5)) 32) (sh (pt (pt (pw u 26 2 (1 : Int32)) 27 5 zr6) 11 5 (sh zr6 5)) 21) 4) zh9) rfl rfl rfl rfl rfl rfl rfl rfl (by decide) (by decide) rfl rfl rfl ?_
  refine v_iload_n dX6_keep_58 rfl ?_
  obtain rfl := Option.some.inj hd
  exact v_iretE dX6_keep_59 rfl rfl rfl rfl

def d_F_keep_30b  (u : (Nat → Nat → Int32)) (s0 : Int32) : Option (Int32 × (Nat → Nat → Int32)) := (d_CC_becomeLike (sj (sh (pw u 36 2 (1 : Int32)) 37) (sh (pw u 36 2 (1 : Int32)) 11) 5)).bind fun zr12 => (d_GG_becomeLike (sj (sh (pt (pt (pw u 36 2 (1 : Int32)) 37 5 zr12) 11 5 (sh zr12 5)) 42) (sh (pt (pt (pw u 36 2 (1 : Int32)) 37 5 zr12) 11 5 (sh zr12 5)) 21) 4)).bind fun zr14 => some (s0, (pt (pt (pt (pt (pw u 36 2 (1 : Int32)) 37 5 zr12) 11 5 (sh zr12 5)) 42 4 zr14) 21 4 (sh zr14 4)))
set_option maxRecDepth 100000 in
set_option maxHeartbeats 4000000 in
theorem v_F_keep_30b  {r : Int32 × (Nat → Nat → Int32)}  (u : (Nat → Nat → Int32)) (s0 : Int32) (hd : d_F_keep_30b  u s0 = some r) : Vd RX6 "keep" cX6_keep 4 (some .int) (rm 2) (ab_eq (some (.int r.1)) (h_F r.2)) 0 0 0 0 30 [(0, .ref 0), (2, .ref 36)] [.int s0] (h_F u) := by
  unfold d_F_keep_30b at hd
  refine v_istore_n (i := 3) (L2 := [(3, .int s0), (0, .ref 0), (2, .ref 36)]) dX6_keep_30 rfl (Nat.le_of_ble_eq_true rfl) rfl ?_
  refine v_aload_n dX6_keep_31 rfl ?_
  refine v_iconst dX6_keep_32 ic_1 ?_
  refine v_ptz (h2 := (h_F (pw u 36 2 (1 : Int32)))) dX6_keep_33 fl_X6_94 rfl (Or.inr rfl) (Nat.le_of_ble_eq_true rfl) rfl ?_
  refine v_aload_n dX6_keep_36 rfl ?_
  refine v_get (v := .ref 37) dX6_keep_37 fl_X6_229 rfl rfl ?_
  refine v_aload_n dX6_keep_40 rfl ?_
  refine v_get (v := .ref 11) dX6_keep_41 fl_X6_19 rfl rfl ?_
  obtain ⟨zr12, zh13, hd⟩ := g_bind hd
  refine v_cV (dy := 1) (st := []) (st2 := []) (h2 := (h_F (pt (pt (pw u 36 2 (1 : Int32)) 37 5 zr12) 11 5 (sh zr12 5)))) [37, 38, 39, 40, 41, 11, 12, 13, 14, 15] dX6_keep_44 mv_X6_87 (m_CC_becomeLike (sj (sh (pw u 36 2 (1 : Int32)) 37) (sh (pw u 36 2 (1 : Int32)) 11) 5) zh13) rfl rfl rfl rfl rfl rfl rfl rfl (by decide) (by decide) rfl rfl rfl ?_
  refine v_aload_n dX6_keep_47 rfl ?_
  refine v_get (v := .ref 42) dX6_keep_48 fl_X6_232 rfl rfl ?_
  refine v_aload_n dX6_keep_51 rfl ?_
  refine v_get (v := .ref 21) dX6_keep_52 fl_X6_29 rfl rfl ?_
  obtain ⟨zr14, zh15, hd⟩ := g_bind hd
  refine v_cV (dy := 1) (st := []) (st2 := []) (h2 := (h_F (pt (pt (pt (pt (pw u 36 2 (1 : Int32)) 37 5 zr12) 11 5 (sh zr12 5)) 42 4 zr14) 21 4 (sh zr14 4)))) [42, 43, 44, 45, 21, 22, 23, 24] dX6_keep_55 mv_X6_233 (m_GG_becomeLike (sj (sh (pt (pt (pw u 36 2 (1 : Int32)) 37 5 zr12) 11 5 (sh zr12 5)) 42) (sh (pt (pt (pw u 36 2 (1 : Int32)) 37 5 zr12) 11 5 (sh zr12 5)) 21) 4) zh15) rfl rfl rfl rfl rfl rfl rfl rfl (by decide) (by decide) rfl rfl rfl ?_
  refine v_iload_n dX6_keep_58 rfl ?_
  obtain rfl := Option.some.inj hd
  exact v_iretE dX6_keep_59 rfl rfl rfl rfl
def d_F_keep (u : (Nat → Nat → Int32)) (a1 : Int32) : Option (Int32 × (Nat → Nat → Int32)) := (d_P_outside a1 (0 : Int32) (1 : Int32)).bind fun zr1 => if zr1 = 0 then (if a1 = (0 : Int32) then (if (u 26 2) = 0 then (d_F_keep_30 u (0 : Int32)) else (d_F_keep_30 u (1 : Int32))) else if a1 = (1 : Int32) then (if (u 36 2) = 0 then (d_F_keep_30b u (0 : Int32)) else (d_F_keep_30b u (1 : Int32))) else none) else (some ((-1 : Int32), u))
set_option maxRecDepth 100000 in
set_option maxHeartbeats 4000000 in
theorem v_F_keep (u : (Nat → Nat → Int32)) (a1 : Int32) {r : Int32 × (Nat → Nat → Int32)} (hd : d_F_keep u a1 = some r) : Vd RX6 "keep" cX6_keep 4 (some .int) (rm 2) (ab_eq (some (.int r.1)) (h_F r.2)) 0 0 0 0 0 [(0, .ref 0), (1, .int a1)] [] (h_F u) := by
  unfold d_F_keep at hd
  refine v_iload_n dX6_keep_0 rfl ?_
  refine v_iconst dX6_keep_1 ic_0 ?_
  refine v_iconst dX6_keep_2 ic_1 ?_
  obtain ⟨zr1, zh2, hd⟩ := g_bind hd
  refine v_cS (dy := 0) (st := []) (st2 := [.int zr1]) (h2 := (h_F u)) [] dX6_keep_3 mz_X6_54 (m_P_outside a1 (0 : Int32) (1 : Int32) zh2) rfl rfl rfl rfl rfl rfl (by decide) (by decide) rfl rfl rfl ?_
  refine v_if_eq (tgt := 11) dX6_keep_6 (by decide) (fun zc3 => ?_) (fun zc3 => ?_)
  · have hd := g_t hd zc3
    refine v_aload_n dX6_keep_11 rfl ?_
    refine v_get (v := .ref 25) dX6_keep_12 fl_X6_35 rfl rfl ?_
    refine v_iload_n dX6_keep_15 rfl ?_
    by_cases zc4 : a1 = (0 : Int32)
    · have hd := g_t hd zc4
      refine v_aald (r := 26) dX6_keep_16 rfl (Or.inl rfl) (by rw [zc4]; exact gi_in (by decide)) (by rw [zc4]; rfl) ?_
      refine v_astore_n (i := 2) (L2 := [(2, .ref 26), (0, .ref 0), (1, .int a1)]) dX6_keep_17 rfl (Nat.le_of_ble_eq_true rfl) rfl ?_
      refine v_aload_n dX6_keep_18 rfl ?_
      refine v_get (v := .int (u 26 2)) dX6_keep_19 fl_X6_94 rfl rfl ?_
      refine v_if_eq (tgt := 29) dX6_keep_22 (by decide) (fun zc5 => ?_) (fun zc5 => ?_)
      · have hd := g_t hd zc5
        refine v_iconst dX6_keep_29 ic_0 ?_
        refine v_loc [1, 0] rfl ?_
        exact v_F_keep_30 u (0 : Int32) hd
      · have hd := g_f hd zc5
        refine v_iconst dX6_keep_25 ic_1 ?_
        refine v_goto (tgt := 30) dX6_keep_26 (by decide) ?_
        refine v_loc [1, 0] rfl ?_
        exact v_F_keep_30 u (1 : Int32) hd
    have hd := g_f hd zc4
    by_cases zc10 : a1 = (1 : Int32)
    · have hd := g_t hd zc10
      refine v_aald (r := 36) dX6_keep_16 rfl (Or.inl rfl) (by rw [zc10]; exact gi_in (by decide)) (by rw [zc10]; rfl) ?_
      refine v_astore_n (i := 2) (L2 := [(2, .ref 36), (0, .ref 0), (1, .int a1)]) dX6_keep_17 rfl (Nat.le_of_ble_eq_true rfl) rfl ?_
      refine v_aload_n dX6_keep_18 rfl ?_
      refine v_get (v := .int (u 36 2)) dX6_keep_19 fl_X6_94 rfl rfl ?_
      refine v_if_eq (tgt := 29) dX6_keep_22 (by decide) (fun zc11 => ?_) (fun zc11 => ?_)
      · have hd := g_t hd zc11
        refine v_iconst dX6_keep_29 ic_0 ?_
        refine v_loc [1, 0] rfl ?_
        exact v_F_keep_30b u (0 : Int32) hd
      · have hd := g_f hd zc11
        refine v_iconst dX6_keep_25 ic_1 ?_
        refine v_goto (tgt := 30) dX6_keep_26 (by decide) ?_
        refine v_loc [1, 0] rfl ?_
        exact v_F_keep_30b u (1 : Int32) hd
    have hd := g_f hd zc10
    cases hd
  · have hd := g_f hd zc3
    refine v_iconst dX6_keep_9 ic_m1 ?_
    obtain rfl := Option.some.inj hd
    exact v_iretE dX6_keep_10 rfl rfl rfl rfl
theorem m_F_keep (u : (Nat → Nat → Int32)) (a1 : Int32) {r : Int32 × (Nat → Nat → Int32)} (hd : d_F_keep u a1 = some r) : Mt yX6_keep cX6_keep 4 (some .int) (rm 2) [.ref 0, .int a1] (h_F u) (ab_eq (some (.int r.1)) (h_F r.2)) := Mt.of (by decide +kernel) (fun _ _ _ => trivial) (Nat.le_of_ble_eq_true rfl) (v_F_keep u a1 hd)
def d_F_back (u : (Nat → Nat → Int32)) (a1 : Int32) : Option (Int32 × (Nat → Nat → Int32)) := (d_P_outside a1 (0 : Int32) (1 : Int32)).bind fun zr1 => if zr1 = 0 then (if a1 = (0 : Int32) then (if (u 26 2) = 0 then (some ((-2 : Int32), u)) else ((d_CC_becomeLike (sj (sh u 11) (sh u 27) 5)).bind fun zr6 => (d_GG_becomeLike (sj (sh (pt (pt u 11 5 zr6) 27 5 (sh zr6 5)) 21) (sh (pt (pt u 11 5 zr6) 27 5 (sh zr6 5)) 32) 4)).bind fun zr8 => some ((zr6 0 9), (pt (pt (pt (pt u 11 5 zr6) 27 5 (sh zr6 5)) 21 4 zr8) 32 4 (sh zr8 4))))) else if a1 = (1 : Int32) then (if (u 36 2) = 0 then (some ((-2 : Int32), u)) else ((d_CC_becomeLike (sj (sh u 11) (sh u 37) 5)).bind fun zr12 => (d_GG_becomeLike (sj (sh (pt (pt u 11 5 zr12) 37 5 (sh zr12 5)) 21) (sh (pt (pt u 11 5 zr12) 37 5 (sh zr12 5)) 42) 4)).bind fun zr14 => some ((zr12 0 9), (pt (pt (pt (pt u 11 5 zr12) 37 5 (sh zr12 5)) 21 4 zr14) 42 4 (sh zr14 4))))) else none) else (some ((-1 : Int32), u))
set_option maxRecDepth 100000 in
set_option maxHeartbeats 4000000 in
theorem v_F_back (u : (Nat → Nat → Int32)) (a1 : Int32) {r : Int32 × (Nat → Nat → Int32)} (hd : d_F_back u a1 = some r) : Vd RX6 "back" cX6_back 3 (some .int) (rm 2) (ab_eq (some (.int r.1)) (h_F r.2)) 0 0 0 0 0 [(0, .ref 0), (1, .int a1)] [] (h_F u) := by
  unfold d_F_back at hd
  refine v_iload_n dX6_back_0 rfl ?_
  refine v_iconst dX6_back_1 ic_0 ?_
  refine v_iconst dX6_back_2 ic_1 ?_
  obtain ⟨zr1, zh2, hd⟩ := g_bind hd
  refine v_cS (dy := 0) (st := []) (st2 := [.int zr1]) (h2 := (h_F u)) [] dX6_back_3 mz_X6_54 (m_P_outside a1 (0 : Int32) (1 : Int32) zh2) rfl rfl rfl rfl rfl rfl (by decide) (by decide) rfl rfl rfl ?_
  refine v_if_eq (tgt := 11) dX6_back_6 (by decide) (fun zc3 => ?_) (fun zc3 => ?_)
  · have hd := g_t hd zc3
    refine v_aload_n dX6_back_11 rfl ?_
    refine v_get (v := .ref 25) dX6_back_12 fl_X6_35 rfl rfl ?_
    refine v_iload_n dX6_back_15 rfl ?_
    by_cases zc4 : a1 = (0 : Int32)
    · have hd := g_t hd zc4
      refine v_aald (r := 26) dX6_back_16 rfl (Or.inl rfl) (by rw [zc4]; exact gi_in (by decide)) (by rw [zc4]; rfl) ?_
      refine v_astore_n (i := 2) (L2 := [(2, .ref 26), (0, .ref 0), (1, .int a1)]) dX6_back_17 rfl (Nat.le_of_ble_eq_true rfl) rfl ?_
      refine v_aload_n dX6_back_18 rfl ?_
      refine v_get (v := .int (u 26 2)) dX6_back_19 fl_X6_94 rfl rfl ?_
      refine v_if_ne (tgt := 28) dX6_back_22 (by decide) (fun zc5 => ?_) (fun zc5 => ?_)
      · have hd := g_f hd zc5
        refine v_aload_n dX6_back_28 rfl ?_
        refine v_get (v := .ref 11) dX6_back_29 fl_X6_19 rfl rfl ?_
        refine v_aload_n dX6_back_32 rfl ?_
        refine v_get (v := .ref 27) dX6_back_33 fl_X6_229 rfl rfl ?_
        obtain ⟨zr6, zh7, hd⟩ := g_bind hd
        refine v_cV (dy := 1) (st := []) (st2 := []) (h2 := (h_F (pt (pt u 11 5 zr6) 27 5 (sh zr6 5)))) [11, 12, 13, 14, 15, 27, 28, 29, 30, 31] dX6_back_36 mv_X6_87 (m_CC_becomeLike (sj (sh u 11) (sh u 27) 5) zh7) rfl rfl rfl rfl rfl rfl rfl rfl (by decide) (by decide) rfl rfl rfl ?_
        refine v_aload_n dX6_back_39 rfl ?_
        refine v_get (v := .ref 21) dX6_back_40 fl_X6_29 rfl rfl ?_
        refine v_aload_n dX6_back_43 rfl ?_
        refine v_get (v := .ref 32) dX6_back_44 fl_X6_232 rfl rfl ?_
        obtain ⟨zr8, zh9, hd⟩ := g_bind hd
        refine v_cV (dy := 1) (st := []) (st2 := []) (h2 := (h_F (pt (pt (pt (pt u 11 5 zr6) 27 5 (sh zr6 5)) 21 4 zr8) 32 4 (sh zr8 4)))) [21, 22, 23, 24, 32, 33, 34, 35] dX6_back_47 mv_X6_233 (m_GG_becomeLike (sj (sh (pt (pt u 11 5 zr6) 27 5 (sh zr6 5)) 21) (sh (pt (pt u 11 5 zr6) 27 5 (sh zr6 5)) 32) 4) zh9) rfl rfl rfl rfl rfl rfl rfl rfl (by decide) (by decide) rfl rfl rfl ?_
        refine v_aload_n dX6_back_50 rfl ?_
        refine v_get (v := .ref 11) dX6_back_51 fl_X6_19 rfl rfl ?_
        refine v_get (v := .int (zr6 0 9)) dX6_back_54 fl_X6_116 rfl rfl ?_
        obtain rfl := Option.some.inj hd
        exact v_iretE dX6_back_57 rfl rfl rfl rfl
      · have hd := g_t hd zc5
        refine v_bipush dX6_back_25 bp_m2 ?_
        obtain rfl := Option.some.inj hd
        exact v_iretE dX6_back_27 rfl rfl rfl rfl
    have hd := g_f hd zc4
    by_cases zc10 : a1 = (1 : Int32)
    · have hd := g_t hd zc10
      refine v_aald (r := 36) dX6_back_16 rfl (Or.inl rfl) (by rw [zc10]; exact gi_in (by decide)) (by rw [zc10]; rfl) ?_
      refine v_astore_n (i := 2) (L2 := [(2, .ref 36), (0, .ref 0), (1, .int a1)]) dX6_back_17 rfl (Nat.le_of_ble_eq_true rfl) rfl ?_
      refine v_aload_n dX6_back_18 rfl ?_
      refine v_get (v := .int (u 36 2)) dX6_back_19 fl_X6_94 rfl rfl ?_
      refine v_if_ne (tgt := 28) dX6_back_22 (by decide) (fun zc11 => ?_) (fun zc11 => ?_)
      · have hd := g_f hd zc11
        refine v_aload_n dX6_back_28 rfl ?_
        refine v_get (v := .ref 11) dX6_back_29 fl_X6_19 rfl rfl ?_
        refine v_aload_n dX6_back_32 rfl ?_
        refine v_get (v := .ref 37) dX6_back_33 fl_X6_229 rfl rfl ?_
        obtain ⟨zr12, zh13, hd⟩ := g_bind hd
        refine v_cV (dy := 1) (st := []) (st2 := []) (h2 := (h_F (pt (pt u 11 5 zr12) 37 5 (sh zr12 5)))) [11, 12, 13, 14, 15, 37, 38, 39, 40, 41] dX6_back_36 mv_X6_87 (m_CC_becomeLike (sj (sh u 11) (sh u 37) 5) zh13) rfl rfl rfl rfl rfl rfl rfl rfl (by decide) (by decide) rfl rfl rfl ?_
        refine v_aload_n dX6_back_39 rfl ?_
        refine v_get (v := .ref 21) dX6_back_40 fl_X6_29 rfl rfl ?_
        refine v_aload_n dX6_back_43 rfl ?_
        refine v_get (v := .ref 42) dX6_back_44 fl_X6_232 rfl rfl ?_
        obtain ⟨zr14, zh15, hd⟩ := g_bind hd
        refine v_cV (dy := 1) (st := []) (st2 := []) (h2 := (h_F (pt (pt (pt (pt u 11 5 zr12) 37 5 (sh zr12 5)) 21 4 zr14) 42 4 (sh zr14 4)))) [21, 22, 23, 24, 42, 43, 44, 45] dX6_back_47 mv_X6_233 (m_GG_becomeLike (sj (sh (pt (pt u 11 5 zr12) 37 5 (sh zr12 5)) 21) (sh (pt (pt u 11 5 zr12) 37 5 (sh zr12 5)) 42) 4) zh15) rfl rfl rfl rfl rfl rfl rfl rfl (by decide) (by decide) rfl rfl rfl ?_
        refine v_aload_n dX6_back_50 rfl ?_
        refine v_get (v := .ref 11) dX6_back_51 fl_X6_19 rfl rfl ?_
        refine v_get (v := .int (zr12 0 9)) dX6_back_54 fl_X6_116 rfl rfl ?_
        obtain rfl := Option.some.inj hd
        exact v_iretE dX6_back_57 rfl rfl rfl rfl
      · have hd := g_t hd zc11
        refine v_bipush dX6_back_25 bp_m2 ?_
        obtain rfl := Option.some.inj hd
        exact v_iretE dX6_back_27 rfl rfl rfl rfl
    have hd := g_f hd zc10
    cases hd
  · have hd := g_f hd zc3
    refine v_iconst dX6_back_9 ic_m1 ?_
    obtain rfl := Option.some.inj hd
    exact v_iretE dX6_back_10 rfl rfl rfl rfl
theorem m_F_back (u : (Nat → Nat → Int32)) (a1 : Int32) {r : Int32 × (Nat → Nat → Int32)} (hd : d_F_back u a1 = some r) : Mt yX6_back cX6_back 3 (some .int) (rm 2) [.ref 0, .int a1] (h_F u) (ab_eq (some (.int r.1)) (h_F r.2)) := Mt.of (by decide +kernel) (fun _ _ _ => trivial) (Nat.le_of_ble_eq_true rfl) (v_F_back u a1 hd)
def d_F_sheet (u : (Nat → Nat → Int32)) (a1 : Int32) (a2 : Int32) (a3 : Int32) : Option (Int32 × (Nat → Nat → Int32)) := (d_P_outside a1 (0 : Int32) (3 : Int32)).bind fun zr1 => if zr1 = 0 then ((d_P_outside a2 (0 : Int32) (2 : Int32)).bind fun zr4 => if zr4 = 0 then (if a3 ≤ (40 : Int32) then (if 0 ≤ a3 then (if a1 = (0 : Int32) then ((d_S_renew (sh u 47) a2 a3).bind fun zr10 => some ((1 : Int32), (pt u 47 2 zr10))) else if a1 = (1 : Int32) then ((d_S_renew (sh u 49) a2 a3).bind fun zr13 => some ((1 : Int32), (pt u 49 2 zr13))) else if a1 = (2 : Int32) then ((d_S_renew (sh u 51) a2 a3).bind fun zr16 => some ((1 : Int32), (pt u 51 2 zr16))) else if a1 = (3 : Int32) then ((d_S_renew (sh u 53) a2 a3).bind fun zr19 => some ((1 : Int32), (pt u 53 2 zr19))) else none) else (some ((-14 : Int32), u))) else (some ((-1 : Int32), u))) else (some ((-1 : Int32), u))) else (some ((-1 : Int32), u))
set_option maxRecDepth 100000 in
set_option maxHeartbeats 4000000 in
theorem v_F_sheet (u : (Nat → Nat → Int32)) (a1 : Int32) (a2 : Int32) (a3 : Int32) {r : Int32 × (Nat → Nat → Int32)} (hd : d_F_sheet u a1 a2 a3 = some r) : Vd RX6 "sheet" cX6_sheet 4 (some .int) (rm 2) (ab_eq (some (.int r.1)) (h_F r.2)) 0 0 0 0 0 [(0, .ref 0), (1, .int a1), (2, .int a2), (3, .int a3)] [] (h_F u) := by
  unfold d_F_sheet at hd
  refine v_iload_n dX6_sheet_0 rfl ?_
  refine v_iconst dX6_sheet_1 ic_0 ?_
  refine v_iconst dX6_sheet_2 ic_3 ?_
  obtain ⟨zr1, zh2, hd⟩ := g_bind hd
  refine v_cS (dy := 0) (st := []) (st2 := [.int zr1]) (h2 := (h_F u)) [] dX6_sheet_3 mz_X6_54 (m_P_outside a1 (0 : Int32) (3 : Int32) zh2) rfl rfl rfl rfl rfl rfl (by decide) (by decide) rfl rfl rfl ?_
  refine v_if_ne (tgt := 24) dX6_sheet_6 (by decide) (fun zc3 => ?_) (fun zc3 => ?_)
  · have hd := g_f hd zc3
    refine v_iconst dX6_sheet_24 ic_m1 ?_
    obtain rfl := Option.some.inj hd
    exact v_iretE dX6_sheet_25 rfl rfl rfl rfl
  · have hd := g_t hd zc3
    refine v_iload_n dX6_sheet_9 rfl ?_
    refine v_iconst dX6_sheet_10 ic_0 ?_
    refine v_iconst dX6_sheet_11 ic_2 ?_
    obtain ⟨zr4, zh5, hd⟩ := g_bind hd
    refine v_cS (dy := 0) (st := []) (st2 := [.int zr4]) (h2 := (h_F u)) [] dX6_sheet_12 mz_X6_54 (m_P_outside a2 (0 : Int32) (2 : Int32) zh5) rfl rfl rfl rfl rfl rfl (by decide) (by decide) rfl rfl rfl ?_
    refine v_if_ne (tgt := 24) dX6_sheet_15 (by decide) (fun zc6 => ?_) (fun zc6 => ?_)
    · have hd := g_f hd zc6
      refine v_iconst dX6_sheet_24 ic_m1 ?_
      obtain rfl := Option.some.inj hd
      exact v_iretE dX6_sheet_25 rfl rfl rfl rfl
    · have hd := g_t hd zc6
      refine v_iload_n dX6_sheet_18 rfl ?_
      refine v_bipush dX6_sheet_19 bp_40 ?_
      refine v_icmp_le (tgt := 26) dX6_sheet_21 (by decide) (fun zc7 => ?_) (fun zc7 => ?_)
      · have hd := g_t hd zc7
        refine v_iload_n dX6_sheet_26 rfl ?_
        refine v_if_ge (tgt := 33) dX6_sheet_27 (by decide) (fun zc8 => ?_) (fun zc8 => ?_)
        · have hd := g_t hd zc8
          refine v_aload_n dX6_sheet_33 rfl ?_
          refine v_get (v := .ref 46) dX6_sheet_34 fl_X6_42 rfl rfl ?_
          refine v_iload_n dX6_sheet_37 rfl ?_
          by_cases zc9 : a1 = (0 : Int32)
          · have hd := g_t hd zc9
            refine v_aald (r := 47) dX6_sheet_38 rfl (Or.inr rfl) (by rw [zc9]; exact gi_in (by decide)) (by rw [zc9]; rfl) ?_
            refine v_iload_n dX6_sheet_39 rfl ?_
            refine v_iload_n dX6_sheet_40 rfl ?_
            obtain ⟨zr10, zh11, hd⟩ := g_bind hd
            refine v_cV (dy := 1) (st := []) (st2 := []) (h2 := (h_F (pt u 47 2 zr10))) [47, 48] dX6_sheet_41 mv_X6_236 (m_S_renew (sh u 47) a2 a3 zh11) rfl rfl rfl rfl rfl rfl rfl rfl (by decide) (by decide) rfl rfl rfl ?_
            refine v_iconst dX6_sheet_44 ic_1 ?_
            obtain rfl := Option.some.inj hd
            exact v_iretE dX6_sheet_45 rfl rfl rfl rfl
          have hd := g_f hd zc9
          by_cases zc12 : a1 = (1 : Int32)
          · have hd := g_t hd zc12
            refine v_aald (r := 49) dX6_sheet_38 rfl (Or.inr rfl) (by rw [zc12]; exact gi_in (by decide)) (by rw [zc12]; rfl) ?_
            refine v_iload_n dX6_sheet_39 rfl ?_
            refine v_iload_n dX6_sheet_40 rfl ?_
            obtain ⟨zr13, zh14, hd⟩ := g_bind hd
            refine v_cV (dy := 1) (st := []) (st2 := []) (h2 := (h_F (pt u 49 2 zr13))) [49, 50] dX6_sheet_41 mv_X6_236 (m_S_renew (sh u 49) a2 a3 zh14) rfl rfl rfl rfl rfl rfl rfl rfl (by decide) (by decide) rfl rfl rfl ?_
            refine v_iconst dX6_sheet_44 ic_1 ?_
            obtain rfl := Option.some.inj hd
            exact v_iretE dX6_sheet_45 rfl rfl rfl rfl
          have hd := g_f hd zc12
          by_cases zc15 : a1 = (2 : Int32)
          · have hd := g_t hd zc15
            refine v_aald (r := 51) dX6_sheet_38 rfl (Or.inr rfl) (by rw [zc15]; exact gi_in (by decide)) (by rw [zc15]; rfl) ?_
            refine v_iload_n dX6_sheet_39 rfl ?_
            refine v_iload_n dX6_sheet_40 rfl ?_
            obtain ⟨zr16, zh17, hd⟩ := g_bind hd
            refine v_cV (dy := 1) (st := []) (st2 := []) (h2 := (h_F (pt u 51 2 zr16))) [51, 52] dX6_sheet_41 mv_X6_236 (m_S_renew (sh u 51) a2 a3 zh17) rfl rfl rfl rfl rfl rfl rfl rfl (by decide) (by decide) rfl rfl rfl ?_
            refine v_iconst dX6_sheet_44 ic_1 ?_
            obtain rfl := Option.some.inj hd
            exact v_iretE dX6_sheet_45 rfl rfl rfl rfl
          have hd := g_f hd zc15
          by_cases zc18 : a1 = (3 : Int32)
          · have hd := g_t hd zc18
            refine v_aald (r := 53) dX6_sheet_38 rfl (Or.inr rfl) (by rw [zc18]; exact gi_in (by decide)) (by rw [zc18]; rfl) ?_
            refine v_iload_n dX6_sheet_39 rfl ?_
            refine v_iload_n dX6_sheet_40 rfl ?_
            obtain ⟨zr19, zh20, hd⟩ := g_bind hd
            refine v_cV (dy := 1) (st := []) (st2 := []) (h2 := (h_F (pt u 53 2 zr19))) [53, 54] dX6_sheet_41 mv_X6_236 (m_S_renew (sh u 53) a2 a3 zh20) rfl rfl rfl rfl rfl rfl rfl rfl (by decide) (by decide) rfl rfl rfl ?_
            refine v_iconst dX6_sheet_44 ic_1 ?_
            obtain rfl := Option.some.inj hd
            exact v_iretE dX6_sheet_45 rfl rfl rfl rfl
          have hd := g_f hd zc18
          cases hd
        · have hd := g_f hd zc8
          refine v_bipush dX6_sheet_30 bp_m14 ?_
          obtain rfl := Option.some.inj hd
          exact v_iretE dX6_sheet_32 rfl rfl rfl rfl
      · have hd := g_f hd zc7
        refine v_iconst dX6_sheet_24 ic_m1 ?_
        obtain rfl := Option.some.inj hd
        exact v_iretE dX6_sheet_25 rfl rfl rfl rfl
theorem m_F_sheet (u : (Nat → Nat → Int32)) (a1 : Int32) (a2 : Int32) (a3 : Int32) {r : Int32 × (Nat → Nat → Int32)} (hd : d_F_sheet u a1 a2 a3 = some r) : Mt yX6_sheet cX6_sheet 4 (some .int) (rm 2) [.ref 0, .int a1, .int a2, .int a3] (h_F u) (ab_eq (some (.int r.1)) (h_F r.2)) := Mt.of (by decide +kernel) (fun _ _ _ => trivial) (Nat.le_of_ble_eq_true rfl) (v_F_sheet u a1 a2 a3 hd)
def d_F_lay (u : (Nat → Nat → Int32)) (a1 : Int32) (a2 : Int32) (a3 : Int32) : Option (Int32 × (Nat → Nat → Int32)) := (d_P_outside a1 (0 : Int32) (3 : Int32)).bind fun zr1 => if zr1 = 0 then (if a1 = (0 : Int32) then ((d_S_tearAt (sh u 47) (u 47 2) a2).bind fun zr5 => if zr5 = 0 then ((d_S_put (sh u 47) a2 a3).bind fun zr8 => some ((1 : Int32), (pt u 47 2 zr8))) else (some (((-10 : Int32) - zr5), u))) else if a1 = (1 : Int32) then ((d_S_tearAt (sh u 49) (u 49 2) a2).bind fun zr11 => if zr11 = 0 then ((d_S_put (sh u 49) a2 a3).bind fun zr14 => some ((1 : Int32), (pt u 49 2 zr14))) else (some (((-10 : Int32) - zr11), u))) else if a1 = (2 : Int32) then ((d_S_tearAt (sh u 51) (u 51 2) a2).bind fun zr17 => if zr17 = 0 then ((d_S_put (sh u 51) a2 a3).bind fun zr20 => some ((1 : Int32), (pt u 51 2 zr20))) else (some (((-10 : Int32) - zr17), u))) else if a1 = (3 : Int32) then ((d_S_tearAt (sh u 53) (u 53 2) a2).bind fun zr23 => if zr23 = 0 then ((d_S_put (sh u 53) a2 a3).bind fun zr26 => some ((1 : Int32), (pt u 53 2 zr26))) else (some (((-10 : Int32) - zr23), u))) else none) else (some ((-1 : Int32), u))
set_option maxRecDepth 100000 in
set_option maxHeartbeats 4000000 in
theorem v_F_lay (u : (Nat → Nat → Int32)) (a1 : Int32) (a2 : Int32) (a3 : Int32) {r : Int32 × (Nat → Nat → Int32)} (hd : d_F_lay u a1 a2 a3 = some r) : Vd RX6 "lay" cX6_lay 6 (some .int) (rm 2) (ab_eq (some (.int r.1)) (h_F r.2)) 0 0 0 0 0 [(0, .ref 0), (1, .int a1), (2, .int a2), (3, .int a3)] [] (h_F u) := by
  unfold d_F_lay at hd
  refine v_iload_n dX6_lay_0 rfl ?_
  refine v_iconst dX6_lay_1 ic_0 ?_
  refine v_iconst dX6_lay_2 ic_3 ?_
  obtain ⟨zr1, zh2, hd⟩ := g_bind hd
  refine v_cS (dy := 0) (st := []) (st2 := [.int zr1]) (h2 := (h_F u)) [] dX6_lay_3 mz_X6_54 (m_P_outside a1 (0 : Int32) (3 : Int32) zh2) rfl rfl rfl rfl rfl rfl (by decide) (by decide) rfl rfl rfl ?_
  refine v_if_eq (tgt := 11) dX6_lay_6 (by decide) (fun zc3 => ?_) (fun zc3 => ?_)
  · have hd := g_t hd zc3
    refine v_aload_n dX6_lay_11 rfl ?_
    refine v_get (v := .ref 46) dX6_lay_12 fl_X6_42 rfl rfl ?_
    refine v_iload_n dX6_lay_15 rfl ?_
    by_cases zc4 : a1 = (0 : Int32)
    · have hd := g_t hd zc4
      refine v_aald (r := 47) dX6_lay_16 rfl (Or.inr rfl) (by rw [zc4]; exact gi_in (by decide)) (by rw [zc4]; rfl) ?_
      refine v_astore (i := 4) (L2 := [(4, .ref 47), (0, .ref 0), (1, .int a1), (2, .int a2), (3, .int a3)]) dX6_lay_17 (Nat.le_of_ble_eq_true rfl) rfl ?_
      refine v_aload dX6_lay_19 rfl ?_
      refine v_aload dX6_lay_21 rfl ?_
      refine v_get (v := .int (u 47 2)) dX6_lay_23 fl_X6_239 rfl rfl ?_
      refine v_iload_n dX6_lay_26 rfl ?_
      obtain ⟨zr5, zh6, hd⟩ := g_bind hd
      refine v_cV (dy := 1) (st := []) (st2 := [.int zr5]) (h2 := (h_F u)) [47, 48] dX6_lay_27 mv_X6_242 (m_S_tearAt (sh u 47) (u 47 2) a2 zh6) rfl rfl rfl rfl rfl rfl rfl rfl (by decide) (by decide) rfl rfl rfl ?_
      refine v_istore (i := 5) (L2 := [(5, .int zr5), (4, .ref 47), (0, .ref 0), (1, .int a1), (2, .int a2), (3, .int a3)]) dX6_lay_30 (Nat.le_of_ble_eq_true rfl) rfl ?_
      refine v_iload dX6_lay_32 rfl ?_
      refine v_if_eq (tgt := 43) dX6_lay_34 (by decide) (fun zc7 => ?_) (fun zc7 => ?_)
      · have hd := g_t hd zc7
        refine v_aload dX6_lay_43 rfl ?_
        refine v_iload_n dX6_lay_45 rfl ?_
        refine v_iload_n dX6_lay_46 rfl ?_
        obtain ⟨zr8, zh9, hd⟩ := g_bind hd
        refine v_cV (dy := 1) (st := []) (st2 := []) (h2 := (h_F (pt u 47 2 zr8))) [47, 48] dX6_lay_47 mv_X6_245 (m_S_put (sh u 47) a2 a3 zh9) rfl rfl rfl rfl rfl rfl rfl rfl (by decide) (by decide) rfl rfl rfl ?_
        refine v_iconst dX6_lay_50 ic_1 ?_
        obtain rfl := Option.some.inj hd
        exact v_iretE dX6_lay_51 rfl rfl rfl rfl
      · have hd := g_f hd zc7
        refine v_bipush dX6_lay_37 bp_m10 ?_
        refine v_iload dX6_lay_39 rfl ?_
        refine v_isub dX6_lay_41 ?_
        obtain rfl := Option.some.inj hd
        exact v_iretE dX6_lay_42 rfl rfl rfl rfl
    have hd := g_f hd zc4
    by_cases zc10 : a1 = (1 : Int32)
    · have hd := g_t hd zc10
      refine v_aald (r := 49) dX6_lay_16 rfl (Or.inr rfl) (by rw [zc10]; exact gi_in (by decide)) (by rw [zc10]; rfl) ?_
      refine v_astore (i := 4) (L2 := [(4, .ref 49), (0, .ref 0), (1, .int a1), (2, .int a2), (3, .int a3)]) dX6_lay_17 (Nat.le_of_ble_eq_true rfl) rfl ?_
      refine v_aload dX6_lay_19 rfl ?_
      refine v_aload dX6_lay_21 rfl ?_
      refine v_get (v := .int (u 49 2)) dX6_lay_23 fl_X6_239 rfl rfl ?_
      refine v_iload_n dX6_lay_26 rfl ?_
      obtain ⟨zr11, zh12, hd⟩ := g_bind hd
      refine v_cV (dy := 1) (st := []) (st2 := [.int zr11]) (h2 := (h_F u)) [49, 50] dX6_lay_27 mv_X6_242 (m_S_tearAt (sh u 49) (u 49 2) a2 zh12) rfl rfl rfl rfl rfl rfl rfl rfl (by decide) (by decide) rfl rfl rfl ?_
      refine v_istore (i := 5) (L2 := [(5, .int zr11), (4, .ref 49), (0, .ref 0), (1, .int a1), (2, .int a2), (3, .int a3)]) dX6_lay_30 (Nat.le_of_ble_eq_true rfl) rfl ?_
      refine v_iload dX6_lay_32 rfl ?_
      refine v_if_eq (tgt := 43) dX6_lay_34 (by decide) (fun zc13 => ?_) (fun zc13 => ?_)
      · have hd := g_t hd zc13
        refine v_aload dX6_lay_43 rfl ?_
        refine v_iload_n dX6_lay_45 rfl ?_
        refine v_iload_n dX6_lay_46 rfl ?_
        obtain ⟨zr14, zh15, hd⟩ := g_bind hd
        refine v_cV (dy := 1) (st := []) (st2 := []) (h2 := (h_F (pt u 49 2 zr14))) [49, 50] dX6_lay_47 mv_X6_245 (m_S_put (sh u 49) a2 a3 zh15) rfl rfl rfl rfl rfl rfl rfl rfl (by decide) (by decide) rfl rfl rfl ?_
        refine v_iconst dX6_lay_50 ic_1 ?_
        obtain rfl := Option.some.inj hd
        exact v_iretE dX6_lay_51 rfl rfl rfl rfl
      · have hd := g_f hd zc13
        refine v_bipush dX6_lay_37 bp_m10 ?_
        refine v_iload dX6_lay_39 rfl ?_
        refine v_isub dX6_lay_41 ?_
        obtain rfl := Option.some.inj hd
        exact v_iretE dX6_lay_42 rfl rfl rfl rfl
    have hd := g_f hd zc10
    by_cases zc16 : a1 = (2 : Int32)
    · have hd := g_t hd zc16
      refine v_aald (r := 51) dX6_lay_16 rfl (Or.inr rfl) (by rw [zc16]; exact gi_in (by decide)) (by rw [zc16]; rfl) ?_
      refine v_astore (i := 4) (L2 := [(4, .ref 51), (0, .ref 0), (1, .int a1), (2, .int a2), (3, .int a3)]) dX6_lay_17 (Nat.le_of_ble_eq_true rfl) rfl ?_
      refine v_aload dX6_lay_19 rfl ?_
      refine v_aload dX6_lay_21 rfl ?_
      refine v_get (v := .int (u 51 2)) dX6_lay_23 fl_X6_239 rfl rfl ?_
      refine v_iload_n dX6_lay_26 rfl ?_
      obtain ⟨zr17, zh18, hd⟩ := g_bind hd
      refine v_cV (dy := 1) (st := []) (st2 := [.int zr17]) (h2 := (h_F u)) [51, 52] dX6_lay_27 mv_X6_242 (m_S_tearAt (sh u 51) (u 51 2) a2 zh18) rfl rfl rfl rfl rfl rfl rfl rfl (by decide) (by decide) rfl rfl rfl ?_
      refine v_istore (i := 5) (L2 := [(5, .int zr17), (4, .ref 51), (0, .ref 0), (1, .int a1), (2, .int a2), (3, .int a3)]) dX6_lay_30 (Nat.le_of_ble_eq_true rfl) rfl ?_
      refine v_iload dX6_lay_32 rfl ?_
      refine v_if_eq (tgt := 43) dX6_lay_34 (by decide) (fun zc19 => ?_) (fun zc19 => ?_)
      · have hd := g_t hd zc19
        refine v_aload dX6_lay_43 rfl ?_
        refine v_iload_n dX6_lay_45 rfl ?_
        refine v_iload_n dX6_lay_46 rfl ?_
        obtain ⟨zr20, zh21, hd⟩ := g_bind hd
        refine v_cV (dy := 1) (st := []) (st2 := []) (h2 := (h_F (pt u 51 2 zr20))) [51, 52] dX6_lay_47 mv_X6_245 (m_S_put (sh u 51) a2 a3 zh21) rfl rfl rfl rfl rfl rfl rfl rfl (by decide) (by decide) rfl rfl rfl ?_
        refine v_iconst dX6_lay_50 ic_1 ?_
        obtain rfl := Option.some.inj hd
        exact v_iretE dX6_lay_51 rfl rfl rfl rfl
      · have hd := g_f hd zc19
        refine v_bipush dX6_lay_37 bp_m10 ?_
        refine v_iload dX6_lay_39 rfl ?_
        refine v_isub dX6_lay_41 ?_
        obtain rfl := Option.some.inj hd
        exact v_iretE dX6_lay_42 rfl rfl rfl rfl
    have hd := g_f hd zc16
    by_cases zc22 : a1 = (3 : Int32)
    · have hd := g_t hd zc22
      refine v_aald (r := 53) dX6_lay_16 rfl (Or.inr rfl) (by rw [zc22]; exact gi_in (by decide)) (by rw [zc22]; rfl) ?_
      refine v_astore (i := 4) (L2 := [(4, .ref 53), (0, .ref 0), (1, .int a1), (2, .int a2), (3, .int a3)]) dX6_lay_17 (Nat.le_of_ble_eq_true rfl) rfl ?_
      refine v_aload dX6_lay_19 rfl ?_
      refine v_aload dX6_lay_21 rfl ?_
      refine v_get (v := .int (u 53 2)) dX6_lay_23 fl_X6_239 rfl rfl ?_
      refine v_iload_n dX6_lay_26 rfl ?_
      obtain ⟨zr23, zh24, hd⟩ := g_bind hd
      refine v_cV (dy := 1) (st := []) (st2 := [.int zr23]) (h2 := (h_F u)) [53, 54] dX6_lay_27 mv_X6_242 (m_S_tearAt (sh u 53) (u 53 2) a2 zh24) rfl rfl rfl rfl rfl rfl rfl rfl (by decide) (by decide) rfl rfl rfl ?_
      refine v_istore (i := 5) (L2 := [(5, .int zr23), (4, .ref 53), (0, .ref 0), (1, .int a1), (2, .int a2), (3, .int a3)]) dX6_lay_30 (Nat.le_of_ble_eq_true rfl) rfl ?_
      refine v_iload dX6_lay_32 rfl ?_
      refine v_if_eq (tgt := 43) dX6_lay_34 (by decide) (fun zc25 => ?_) (fun zc25 => ?_)
      · have hd := g_t hd zc25
        refine v_aload dX6_lay_43 rfl ?_
        refine v_iload_n dX6_lay_45 rfl ?_
        refine v_iload_n dX6_lay_46 rfl ?_
        obtain ⟨zr26, zh27, hd⟩ := g_bind hd
        refine v_cV (dy := 1) (st := []) (st2 := []) (h2 := (h_F (pt u 53 2 zr26))) [53, 54] dX6_lay_47 mv_X6_245 (m_S_put (sh u 53) a2 a3 zh27) rfl rfl rfl rfl rfl rfl rfl rfl (by decide) (by decide) rfl rfl rfl ?_
        refine v_iconst dX6_lay_50 ic_1 ?_
        obtain rfl := Option.some.inj hd
        exact v_iretE dX6_lay_51 rfl rfl rfl rfl
      · have hd := g_f hd zc25
        refine v_bipush dX6_lay_37 bp_m10 ?_
        refine v_iload dX6_lay_39 rfl ?_
        refine v_isub dX6_lay_41 ?_
        obtain rfl := Option.some.inj hd
        exact v_iretE dX6_lay_42 rfl rfl rfl rfl
    have hd := g_f hd zc22
    cases hd
  · have hd := g_f hd zc3
    refine v_iconst dX6_lay_9 ic_m1 ?_
    obtain rfl := Option.some.inj hd
    exact v_iretE dX6_lay_10 rfl rfl rfl rfl
theorem m_F_lay (u : (Nat → Nat → Int32)) (a1 : Int32) (a2 : Int32) (a3 : Int32) {r : Int32 × (Nat → Nat → Int32)} (hd : d_F_lay u a1 a2 a3 = some r) : Mt yX6_lay cX6_lay 6 (some .int) (rm 2) [.ref 0, .int a1, .int a2, .int a3] (h_F u) (ab_eq (some (.int r.1)) (h_F r.2)) := Mt.of (by decide +kernel) (fun _ _ _ => trivial) (Nat.le_of_ble_eq_true rfl) (v_F_lay u a1 a2 a3 hd)

def d_F_read_135  (u : (Nat → Nat → Int32)) (x6 : Int32) (x7 : Int32) : Option (Int32 × (Nat → Nat → Int32)) := (d_CC_becomeLike (sj (sh u 11) (sh u 16) 5)).bind fun zr14 => some (x7, (pw (pt (pt u 11 5 zr14) 16 5 (sh zr14 5)) 0 9 x6))
set_option maxRecDepth 100000 in
set_option maxHeartbeats 4000000 in
theorem v_F_read_135  {r : Int32 × (Nat → Nat → Int32)}  (u : (Nat → Nat → Int32)) (x6 : Int32) (x7 : Int32) (hd : d_F_read_135  u x6 x7 = some r) : Vd RX6 "read" cX6_read 10 (some .int) (rm 3) (ab_eq (some (.int r.1)) (h_F r.2)) 0 0 0 0 135 [(0, .ref 0), (6, .int x6), (7, .int x7)] [] (h_F u) := by
  unfold d_F_read_135 at hd
  refine v_aload_n dX6_read_135 rfl ?_
  refine v_get (v := .ref 11) dX6_read_136 fl_X6_19 rfl rfl ?_
  refine v_aload_n dX6_read_139 rfl ?_
  refine v_get (v := .ref 16) dX6_read_140 fl_X6_23 rfl rfl ?_
  obtain ⟨zr14, zh15, hd⟩ := g_bind hd
  refine v_cV (dy := 1) (st := []) (st2 := []) (h2 := (h_F (pt (pt u 11 5 zr14) 16 5 (sh zr14 5)))) [11, 12, 13, 14, 15, 16, 17, 18, 19, 20] dX6_read_143 mv_X6_87 (m_CC_becomeLike (sj (sh u 11) (sh u 16) 5) zh15) rfl rfl rfl rfl rfl rfl rfl rfl (by decide) (by decide) rfl rfl rfl ?_
  refine v_aload_n dX6_read_146 rfl ?_
  refine v_iload dX6_read_147 rfl ?_
  refine v_pti (h2 := (h_F (pw (pt (pt u 11 5 zr14) 16 5 (sh zr14 5)) 0 9 x6))) dX6_read_149 fl_X6_254 rfl (Nat.le_of_ble_eq_true rfl) rfl ?_
  refine v_iload dX6_read_152 rfl ?_
  obtain rfl := Option.some.inj hd
  exact v_iretE dX6_read_154 rfl rfl rfl rfl

def d_F_read_129 (k59 : (Nat → Nat → Int32) → Int32 → Int32 → Int32 → Int32 → Int32 → Int32 → Option (Int32 × (Nat → Nat → Int32))) (u : (Nat → Nat → Int32)) (x2 : Int32) (x3 : Int32) (x4 : Int32) (x6 : Int32) (x7 : Int32) (x8 : Int32) : Option (Int32 × (Nat → Nat → Int32)) := dl (x8 + (1 : Int32)) fun zy22 => k59 u x2 x3 x4 x6 x7 zy22
set_option maxRecDepth 100000 in
set_option maxHeartbeats 4000000 in
theorem v_F_read_129  {r : Int32 × (Nat → Nat → Int32)} (k59 : (Nat → Nat → Int32) → Int32 → Int32 → Int32 → Int32 → Int32 → Int32 → Option (Int32 × (Nat → Nat → Int32))) (hk59 : ∀ (u : (Nat → Nat → Int32)) (x2 : Int32) (x3 : Int32) (x4 : Int32) (x6 : Int32) (x7 : Int32) (x8 : Int32), k59 u x2 x3 x4 x6 x7 x8 = some r → Vd RX6 "read" cX6_read 10 (some .int) (rm 3) (ab_eq (some (.int r.1)) (h_F r.2)) 0 0 0 0 59 [(0, .ref 0), (2, .int x2), (3, .int x3), (4, .int x4), (5, .ref 47), (6, .int x6), (7, .int x7), (8, .int x8)] [] (h_F u)) (u : (Nat → Nat → Int32)) (x2 : Int32) (x3 : Int32) (x4 : Int32) (x6 : Int32) (x7 : Int32) (x8 : Int32) (hd : d_F_read_129 k59 u x2 x3 x4 x6 x7 x8 = some r) : Vd RX6 "read" cX6_read 10 (some .int) (rm 3) (ab_eq (some (.int r.1)) (h_F r.2)) 0 0 0 0 129 [(0, .ref 0), (2, .int x2), (3, .int x3), (4, .int x4), (5, .ref 47), (6, .int x6), (7, .int x7), (8, .int x8)] [] (h_F u) := by
  unfold d_F_read_129 at hd
  obtain ⟨zy22, ze23⟩ : ∃ z : Int32, z = (x8 + (1 : Int32)) := ⟨_, rfl⟩
  have hd := dl_n hd zy22 ze23
  refine v_iinc (v := zy22) (L2 := [(8, .int zy22), (0, .ref 0), (2, .int x2), (3, .int x3), (4, .int x4), (5, .ref 47), (6, .int x6), (7, .int x7)]) dX6_read_129 rfl (by rw [ic_1]; exact ze23.symm) (Nat.le_of_ble_eq_true rfl) rfl ?_
  refine v_goto (tgt := 59) dX6_read_132 (by decide) ?_
  refine v_loc [1, 2, 3, 4, 5, 6, 7, 0] rfl ?_
  exact hk59 u x2 x3 x4 x6 x7 zy22 hd

def d_F_read_59  : Nat → (Nat → Nat → Int32) → Int32 → Int32 → Int32 → Int32 → Int32 → Int32 → Option (Int32 × (Nat → Nat → Int32))
  | 0, _, _, _, _, _, _, _ => none
  | f + 1, u, x2, x3, x4, x6, x7, x8 => if x4 ≤ x8 then (d_F_read_135 u x6 x7) else (if x6 = 0 then (dl (x3 + ((2 : Int32) * x8)) fun zy17 => (d_S_tearOfPair (sh u 47) x2 zy17).bind fun zr19 => if zr19 = 0 then ((d_S_cellAt (sh u 47) zy17).bind fun zr24 => (d_S_cellAt (sh u 47) (zy17 + (1 : Int32))).bind fun zr26 => (d_C_giveAhead (sh u 16) zr24 zr26).bind fun zr28 => if 0 ≤ zr28.1 then (dl (x7 + (1 : Int32)) fun zy31 => d_F_read_129 (d_F_read_59 f) (pt u 16 5 zr28.2) x2 x3 x4 zr19 zy31 x8) else (some (((-20 : Int32) - x8), (pt u 16 5 zr28.2)))) else (d_F_read_129 (d_F_read_59 f) u x2 x3 x4 zr19 x7 x8)) else (d_F_read_135 u x6 x7))
set_option maxRecDepth 100000 in
set_option maxHeartbeats 4000000 in
theorem v_F_read_59  {r : Int32 × (Nat → Nat → Int32)}  : ∀ (f : Nat) (u : (Nat → Nat → Int32)) (x2 : Int32) (x3 : Int32) (x4 : Int32) (x6 : Int32) (x7 : Int32) (x8 : Int32), d_F_read_59  f u x2 x3 x4 x6 x7 x8 = some r → Vd RX6 "read" cX6_read 10 (some .int) (rm 3) (ab_eq (some (.int r.1)) (h_F r.2)) 0 0 0 0 59 [(0, .ref 0), (2, .int x2), (3, .int x3), (4, .int x4), (5, .ref 47), (6, .int x6), (7, .int x7), (8, .int x8)] [] (h_F u) := by
  intro f
  induction f with
  | zero =>
    intro u x2 x3 x4 x6 x7 x8 hd
    rw [d_F_read_59] at hd
    cases hd
  | succ f ih =>
    intro u x2 x3 x4 x6 x7 x8 hd
    rw [d_F_read_59] at hd
    refine v_iload dX6_read_59 rfl ?_
    refine v_iload dX6_read_61 rfl ?_
    refine v_icmp_ge (tgt := 135) dX6_read_63 (by decide) (fun zc13 => ?_) (fun zc13 => ?_)
    · have hd := g_t hd zc13
      refine v_loc [0, 5, 6] rfl ?_
      exact v_F_read_135 u x6 x7 hd
    · have hd := g_f hd zc13
      refine v_iload dX6_read_66 rfl ?_
      refine v_if_ne (tgt := 135) dX6_read_68 (by decide) (fun zc16 => ?_) (fun zc16 => ?_)
      · have hd := g_f hd zc16
        refine v_loc [0, 5, 6] rfl ?_
        exact v_F_read_135 u x6 x7 hd
      · have hd := g_t hd zc16
        refine v_iload_n dX6_read_71 rfl ?_
        refine v_iconst dX6_read_72 ic_2 ?_
        refine v_iload dX6_read_73 rfl ?_
        refine v_imul dX6_read_75 ?_
        refine v_iadd dX6_read_76 ?_
        refine v_topi (fun zy17 ze18 => ?_)
        have hd := dl_n hd zy17 ze18
        refine v_istore (i := 9) (L2 := [(9, .int zy17), (0, .ref 0), (2, .int x2), (3, .int x3), (4, .int x4), (5, .ref 47), (6, .int x6), (7, .int x7), (8, .int x8)]) dX6_read_77 (Nat.le_of_ble_eq_true rfl) rfl ?_
        refine v_aload dX6_read_79 rfl ?_
        refine v_iload_n dX6_read_81 rfl ?_
        refine v_iload dX6_read_82 rfl ?_
        obtain ⟨zr19, zh20, hd⟩ := g_bind hd
        refine v_cV (dy := 2) (st := []) (st2 := [.int zr19]) (h2 := (h_F u)) [47, 48] dX6_read_84 mv_X6_248 (m_S_tearOfPair (sh u 47) x2 zy17 zh20) rfl rfl rfl rfl rfl rfl rfl rfl (by decide) (by decide) rfl rfl rfl ?_
        refine v_istore (i := 6) (L2 := [(6, .int zr19), (9, .int zy17), (0, .ref 0), (2, .int x2), (3, .int x3), (4, .int x4), (5, .ref 47), (7, .int x7), (8, .int x8)]) dX6_read_87 (Nat.le_of_ble_eq_true rfl) rfl ?_
        refine v_iload dX6_read_89 rfl ?_
        refine v_if_ne (tgt := 129) dX6_read_91 (by decide) (fun zc21 => ?_) (fun zc21 => ?_)
        · have hd := g_f hd zc21
          refine v_loc [2, 3, 4, 5, 6, 0, 7, 8] rfl ?_
          exact v_F_read_129 (d_F_read_59 f) (ih) u x2 x3 x4 zr19 x7 x8 hd
        · have hd := g_t hd zc21
          refine v_aload_n dX6_read_94 rfl ?_
          refine v_get (v := .ref 16) dX6_read_95 fl_X6_23 rfl rfl ?_
          refine v_aload dX6_read_98 rfl ?_
          refine v_iload dX6_read_100 rfl ?_
          obtain ⟨zr24, zh25, hd⟩ := g_bind hd
          refine v_cV (dy := 1) (st := [.ref 16]) (st2 := [.int zr24, .ref 16]) (h2 := (h_F u)) [47, 48] dX6_read_102 mv_X6_251 (m_S_cellAt (sh u 47) zy17 zh25) rfl rfl rfl rfl rfl rfl rfl rfl (by decide) (by decide) rfl rfl rfl ?_
          refine v_aload dX6_read_105 rfl ?_
          refine v_iload dX6_read_107 rfl ?_
          refine v_iconst dX6_read_109 ic_1 ?_
          refine v_iadd dX6_read_110 ?_
          obtain ⟨zr26, zh27, hd⟩ := g_bind hd
          refine v_cV (dy := 1) (st := [.int zr24, .ref 16]) (st2 := [.int zr26, .int zr24, .ref 16]) (h2 := (h_F u)) [47, 48] dX6_read_111 mv_X6_251 (m_S_cellAt (sh u 47) (zy17 + (1 : Int32)) zh27) rfl rfl rfl rfl rfl rfl rfl rfl (by decide) (by decide) rfl rfl rfl ?_
          obtain ⟨zr28, zh29, hd⟩ := g_bind hd
          refine v_cV (dy := 2) (st := []) (st2 := [.int zr28.1]) (h2 := (h_F (pt u 16 5 zr28.2))) [16, 17, 18, 19, 20] dX6_read_114 mv_X6_141 (m_C_giveAhead (sh u 16) zr24 zr26 zh29) rfl rfl rfl rfl rfl rfl rfl rfl (by decide) (by decide) rfl rfl rfl ?_
          refine v_if_ge (tgt := 126) dX6_read_117 (by decide) (fun zc30 => ?_) (fun zc30 => ?_)
          · have hd := g_t hd zc30
            obtain ⟨zy31, ze32⟩ : ∃ z : Int32, z = (x7 + (1 : Int32)) := ⟨_, rfl⟩
            have hd := dl_n hd zy31 ze32
            refine v_iinc (v := zy31) (L2 := [(7, .int zy31), (6, .int zr19), (9, .int zy17), (0, .ref 0), (2, .int x2), (3, .int x3), (4, .int x4), (5, .ref 47), (8, .int x8)]) dX6_read_126 rfl (by rw [ic_1]; exact ze32.symm) (Nat.le_of_ble_eq_true rfl) rfl ?_
            refine v_loc [3, 4, 5, 6, 7, 1, 0, 8] rfl ?_
            exact v_F_read_129 (d_F_read_59 f) (ih) (pt u 16 5 zr28.2) x2 x3 x4 zr19 zy31 x8 hd
          · have hd := g_f hd zc30
            refine v_bipush dX6_read_120 bp_m20 ?_
            refine v_iload dX6_read_122 rfl ?_
            refine v_isub dX6_read_124 ?_
            obtain rfl := Option.some.inj hd
            exact v_iretE dX6_read_125 rfl rfl rfl rfl

def d_F_read_129b (k59 : (Nat → Nat → Int32) → Int32 → Int32 → Int32 → Int32 → Int32 → Int32 → Option (Int32 × (Nat → Nat → Int32))) (u : (Nat → Nat → Int32)) (x2 : Int32) (x3 : Int32) (x4 : Int32) (x6 : Int32) (x7 : Int32) (x8 : Int32) : Option (Int32 × (Nat → Nat → Int32)) := dl (x8 + (1 : Int32)) fun zy43 => k59 u x2 x3 x4 x6 x7 zy43
set_option maxRecDepth 100000 in
set_option maxHeartbeats 4000000 in
theorem v_F_read_129b  {r : Int32 × (Nat → Nat → Int32)} (k59 : (Nat → Nat → Int32) → Int32 → Int32 → Int32 → Int32 → Int32 → Int32 → Option (Int32 × (Nat → Nat → Int32))) (hk59 : ∀ (u : (Nat → Nat → Int32)) (x2 : Int32) (x3 : Int32) (x4 : Int32) (x6 : Int32) (x7 : Int32) (x8 : Int32), k59 u x2 x3 x4 x6 x7 x8 = some r → Vd RX6 "read" cX6_read 10 (some .int) (rm 3) (ab_eq (some (.int r.1)) (h_F r.2)) 0 0 0 0 59 [(0, .ref 0), (2, .int x2), (3, .int x3), (4, .int x4), (5, .ref 49), (6, .int x6), (7, .int x7), (8, .int x8)] [] (h_F u)) (u : (Nat → Nat → Int32)) (x2 : Int32) (x3 : Int32) (x4 : Int32) (x6 : Int32) (x7 : Int32) (x8 : Int32) (hd : d_F_read_129b k59 u x2 x3 x4 x6 x7 x8 = some r) : Vd RX6 "read" cX6_read 10 (some .int) (rm 3) (ab_eq (some (.int r.1)) (h_F r.2)) 0 0 0 0 129 [(0, .ref 0), (2, .int x2), (3, .int x3), (4, .int x4), (5, .ref 49), (6, .int x6), (7, .int x7), (8, .int x8)] [] (h_F u) := by
  unfold d_F_read_129b at hd
  obtain ⟨zy43, ze44⟩ : ∃ z : Int32, z = (x8 + (1 : Int32)) := ⟨_, rfl⟩
  have hd := dl_n hd zy43 ze44
  refine v_iinc (v := zy43) (L2 := [(8, .int zy43), (0, .ref 0), (2, .int x2), (3, .int x3), (4, .int x4), (5, .ref 49), (6, .int x6), (7, .int x7)]) dX6_read_129 rfl (by rw [ic_1]; exact ze44.symm) (Nat.le_of_ble_eq_true rfl) rfl ?_
  refine v_goto (tgt := 59) dX6_read_132 (by decide) ?_
  refine v_loc [1, 2, 3, 4, 5, 6, 7, 0] rfl ?_
  exact hk59 u x2 x3 x4 x6 x7 zy43 hd

def d_F_read_59b  : Nat → (Nat → Nat → Int32) → Int32 → Int32 → Int32 → Int32 → Int32 → Int32 → Option (Int32 × (Nat → Nat → Int32))
  | 0, _, _, _, _, _, _, _ => none
  | f + 1, u, x2, x3, x4, x6, x7, x8 => if x4 ≤ x8 then (d_F_read_135 u x6 x7) else (if x6 = 0 then (dl (x3 + ((2 : Int32) * x8)) fun zy38 => (d_S_tearOfPair (sh u 49) x2 zy38).bind fun zr40 => if zr40 = 0 then ((d_S_cellAt (sh u 49) zy38).bind fun zr45 => (d_S_cellAt (sh u 49) (zy38 + (1 : Int32))).bind fun zr47 => (d_C_giveAhead (sh u 16) zr45 zr47).bind fun zr49 => if 0 ≤ zr49.1 then (dl (x7 + (1 : Int32)) fun zy52 => d_F_read_129b (d_F_read_59b f) (pt u 16 5 zr49.2) x2 x3 x4 zr40 zy52 x8) else (some (((-20 : Int32) - x8), (pt u 16 5 zr49.2)))) else (d_F_read_129b (d_F_read_59b f) u x2 x3 x4 zr40 x7 x8)) else (d_F_read_135 u x6 x7))
set_option maxRecDepth 100000 in
set_option maxHeartbeats 4000000 in
theorem v_F_read_59b  {r : Int32 × (Nat → Nat → Int32)}  : ∀ (f : Nat) (u : (Nat → Nat → Int32)) (x2 : Int32) (x3 : Int32) (x4 : Int32) (x6 : Int32) (x7 : Int32) (x8 : Int32), d_F_read_59b  f u x2 x3 x4 x6 x7 x8 = some r → Vd RX6 "read" cX6_read 10 (some .int) (rm 3) (ab_eq (some (.int r.1)) (h_F r.2)) 0 0 0 0 59 [(0, .ref 0), (2, .int x2), (3, .int x3), (4, .int x4), (5, .ref 49), (6, .int x6), (7, .int x7), (8, .int x8)] [] (h_F u) := by
  intro f
  induction f with
  | zero =>
    intro u x2 x3 x4 x6 x7 x8 hd
    rw [d_F_read_59b] at hd
    cases hd
  | succ f ih =>
    intro u x2 x3 x4 x6 x7 x8 hd
    rw [d_F_read_59b] at hd
    refine v_iload dX6_read_59 rfl ?_
    refine v_iload dX6_read_61 rfl ?_
    refine v_icmp_ge (tgt := 135) dX6_read_63 (by decide) (fun zc36 => ?_) (fun zc36 => ?_)
    · have hd := g_t hd zc36
      refine v_loc [0, 5, 6] rfl ?_
      exact v_F_read_135 u x6 x7 hd
    · have hd := g_f hd zc36
      refine v_iload dX6_read_66 rfl ?_
      refine v_if_ne (tgt := 135) dX6_read_68 (by decide) (fun zc37 => ?_) (fun zc37 => ?_)
      · have hd := g_f hd zc37
        refine v_loc [0, 5, 6] rfl ?_
        exact v_F_read_135 u x6 x7 hd
      · have hd := g_t hd zc37
        refine v_iload_n dX6_read_71 rfl ?_
        refine v_iconst dX6_read_72 ic_2 ?_
        refine v_iload dX6_read_73 rfl ?_
        refine v_imul dX6_read_75 ?_
        refine v_iadd dX6_read_76 ?_
        refine v_topi (fun zy38 ze39 => ?_)
        have hd := dl_n hd zy38 ze39
        refine v_istore (i := 9) (L2 := [(9, .int zy38), (0, .ref 0), (2, .int x2), (3, .int x3), (4, .int x4), (5, .ref 49), (6, .int x6), (7, .int x7), (8, .int x8)]) dX6_read_77 (Nat.le_of_ble_eq_true rfl) rfl ?_
        refine v_aload dX6_read_79 rfl ?_
        refine v_iload_n dX6_read_81 rfl ?_
        refine v_iload dX6_read_82 rfl ?_
        obtain ⟨zr40, zh41, hd⟩ := g_bind hd
        refine v_cV (dy := 2) (st := []) (st2 := [.int zr40]) (h2 := (h_F u)) [49, 50] dX6_read_84 mv_X6_248 (m_S_tearOfPair (sh u 49) x2 zy38 zh41) rfl rfl rfl rfl rfl rfl rfl rfl (by decide) (by decide) rfl rfl rfl ?_
        refine v_istore (i := 6) (L2 := [(6, .int zr40), (9, .int zy38), (0, .ref 0), (2, .int x2), (3, .int x3), (4, .int x4), (5, .ref 49), (7, .int x7), (8, .int x8)]) dX6_read_87 (Nat.le_of_ble_eq_true rfl) rfl ?_
        refine v_iload dX6_read_89 rfl ?_
        refine v_if_ne (tgt := 129) dX6_read_91 (by decide) (fun zc42 => ?_) (fun zc42 => ?_)
        · have hd := g_f hd zc42
          refine v_loc [2, 3, 4, 5, 6, 0, 7, 8] rfl ?_
          exact v_F_read_129b (d_F_read_59b f) (ih) u x2 x3 x4 zr40 x7 x8 hd
        · have hd := g_t hd zc42
          refine v_aload_n dX6_read_94 rfl ?_
          refine v_get (v := .ref 16) dX6_read_95 fl_X6_23 rfl rfl ?_
          refine v_aload dX6_read_98 rfl ?_
          refine v_iload dX6_read_100 rfl ?_
          obtain ⟨zr45, zh46, hd⟩ := g_bind hd
          refine v_cV (dy := 1) (st := [.ref 16]) (st2 := [.int zr45, .ref 16]) (h2 := (h_F u)) [49, 50] dX6_read_102 mv_X6_251 (m_S_cellAt (sh u 49) zy38 zh46) rfl rfl rfl rfl rfl rfl rfl rfl (by decide) (by decide) rfl rfl rfl ?_
          refine v_aload dX6_read_105 rfl ?_
          refine v_iload dX6_read_107 rfl ?_
          refine v_iconst dX6_read_109 ic_1 ?_
          refine v_iadd dX6_read_110 ?_
          obtain ⟨zr47, zh48, hd⟩ := g_bind hd
          refine v_cV (dy := 1) (st := [.int zr45, .ref 16]) (st2 := [.int zr47, .int zr45, .ref 16]) (h2 := (h_F u)) [49, 50] dX6_read_111 mv_X6_251 (m_S_cellAt (sh u 49) (zy38 + (1 : Int32)) zh48) rfl rfl rfl rfl rfl rfl rfl rfl (by decide) (by decide) rfl rfl rfl ?_
          obtain ⟨zr49, zh50, hd⟩ := g_bind hd
          refine v_cV (dy := 2) (st := []) (st2 := [.int zr49.1]) (h2 := (h_F (pt u 16 5 zr49.2))) [16, 17, 18, 19, 20] dX6_read_114 mv_X6_141 (m_C_giveAhead (sh u 16) zr45 zr47 zh50) rfl rfl rfl rfl rfl rfl rfl rfl (by decide) (by decide) rfl rfl rfl ?_
          refine v_if_ge (tgt := 126) dX6_read_117 (by decide) (fun zc51 => ?_) (fun zc51 => ?_)
          · have hd := g_t hd zc51
            obtain ⟨zy52, ze53⟩ : ∃ z : Int32, z = (x7 + (1 : Int32)) := ⟨_, rfl⟩
            have hd := dl_n hd zy52 ze53
            refine v_iinc (v := zy52) (L2 := [(7, .int zy52), (6, .int zr40), (9, .int zy38), (0, .ref 0), (2, .int x2), (3, .int x3), (4, .int x4), (5, .ref 49), (8, .int x8)]) dX6_read_126 rfl (by rw [ic_1]; exact ze53.symm) (Nat.le_of_ble_eq_true rfl) rfl ?_
            refine v_loc [3, 4, 5, 6, 7, 1, 0, 8] rfl ?_
            exact v_F_read_129b (d_F_read_59b f) (ih) (pt u 16 5 zr49.2) x2 x3 x4 zr40 zy52 x8 hd
          · have hd := g_f hd zc51
            refine v_bipush dX6_read_120 bp_m20 ?_
            refine v_iload dX6_read_122 rfl ?_
            refine v_isub dX6_read_124 ?_
            obtain rfl := Option.some.inj hd
            exact v_iretE dX6_read_125 rfl rfl rfl rfl

def d_F_read_129bb (k59 : (Nat → Nat → Int32) → Int32 → Int32 → Int32 → Int32 → Int32 → Int32 → Option (Int32 × (Nat → Nat → Int32))) (u : (Nat → Nat → Int32)) (x2 : Int32) (x3 : Int32) (x4 : Int32) (x6 : Int32) (x7 : Int32) (x8 : Int32) : Option (Int32 × (Nat → Nat → Int32)) := dl (x8 + (1 : Int32)) fun zy64 => k59 u x2 x3 x4 x6 x7 zy64
set_option maxRecDepth 100000 in
set_option maxHeartbeats 4000000 in
theorem v_F_read_129bb  {r : Int32 × (Nat → Nat → Int32)} (k59 : (Nat → Nat → Int32) → Int32 → Int32 → Int32 → Int32 → Int32 → Int32 → Option (Int32 × (Nat → Nat → Int32))) (hk59 : ∀ (u : (Nat → Nat → Int32)) (x2 : Int32) (x3 : Int32) (x4 : Int32) (x6 : Int32) (x7 : Int32) (x8 : Int32), k59 u x2 x3 x4 x6 x7 x8 = some r → Vd RX6 "read" cX6_read 10 (some .int) (rm 3) (ab_eq (some (.int r.1)) (h_F r.2)) 0 0 0 0 59 [(0, .ref 0), (2, .int x2), (3, .int x3), (4, .int x4), (5, .ref 51), (6, .int x6), (7, .int x7), (8, .int x8)] [] (h_F u)) (u : (Nat → Nat → Int32)) (x2 : Int32) (x3 : Int32) (x4 : Int32) (x6 : Int32) (x7 : Int32) (x8 : Int32) (hd : d_F_read_129bb k59 u x2 x3 x4 x6 x7 x8 = some r) : Vd RX6 "read" cX6_read 10 (some .int) (rm 3) (ab_eq (some (.int r.1)) (h_F r.2)) 0 0 0 0 129 [(0, .ref 0), (2, .int x2), (3, .int x3), (4, .int x4), (5, .ref 51), (6, .int x6), (7, .int x7), (8, .int x8)] [] (h_F u) := by
  unfold d_F_read_129bb at hd
  obtain ⟨zy64, ze65⟩ : ∃ z : Int32, z = (x8 + (1 : Int32)) := ⟨_, rfl⟩
  have hd := dl_n hd zy64 ze65
  refine v_iinc (v := zy64) (L2 := [(8, .int zy64), (0, .ref 0), (2, .int x2), (3, .int x3), (4, .int x4), (5, .ref 51), (6, .int x6), (7, .int x7)]) dX6_read_129 rfl (by rw [ic_1]; exact ze65.symm) (Nat.le_of_ble_eq_true rfl) rfl ?_
  refine v_goto (tgt := 59) dX6_read_132 (by decide) ?_
  refine v_loc [1, 2, 3, 4, 5, 6, 7, 0] rfl ?_
  exact hk59 u x2 x3 x4 x6 x7 zy64 hd

def d_F_read_59bb  : Nat → (Nat → Nat → Int32) → Int32 → Int32 → Int32 → Int32 → Int32 → Int32 → Option (Int32 × (Nat → Nat → Int32))
  | 0, _, _, _, _, _, _, _ => none
  | f + 1, u, x2, x3, x4, x6, x7, x8 => if x4 ≤ x8 then (d_F_read_135 u x6 x7) else (if x6 = 0 then (dl (x3 + ((2 : Int32) * x8)) fun zy59 => (d_S_tearOfPair (sh u 51) x2 zy59).bind fun zr61 => if zr61 = 0 then ((d_S_cellAt (sh u 51) zy59).bind fun zr66 => (d_S_cellAt (sh u 51) (zy59 + (1 : Int32))).bind fun zr68 => (d_C_giveAhead (sh u 16) zr66 zr68).bind fun zr70 => if 0 ≤ zr70.1 then (dl (x7 + (1 : Int32)) fun zy73 => d_F_read_129bb (d_F_read_59bb f) (pt u 16 5 zr70.2) x2 x3 x4 zr61 zy73 x8) else (some (((-20 : Int32) - x8), (pt u 16 5 zr70.2)))) else (d_F_read_129bb (d_F_read_59bb f) u x2 x3 x4 zr61 x7 x8)) else (d_F_read_135 u x6 x7))
set_option maxRecDepth 100000 in
set_option maxHeartbeats 4000000 in
theorem v_F_read_59bb  {r : Int32 × (Nat → Nat → Int32)}  : ∀ (f : Nat) (u : (Nat → Nat → Int32)) (x2 : Int32) (x3 : Int32) (x4 : Int32) (x6 : Int32) (x7 : Int32) (x8 : Int32), d_F_read_59bb  f u x2 x3 x4 x6 x7 x8 = some r → Vd RX6 "read" cX6_read 10 (some .int) (rm 3) (ab_eq (some (.int r.1)) (h_F r.2)) 0 0 0 0 59 [(0, .ref 0), (2, .int x2), (3, .int x3), (4, .int x4), (5, .ref 51), (6, .int x6), (7, .int x7), (8, .int x8)] [] (h_F u) := by
  intro f
  induction f with
  | zero =>
    intro u x2 x3 x4 x6 x7 x8 hd
    rw [d_F_read_59bb] at hd
    cases hd
  | succ f ih =>
    intro u x2 x3 x4 x6 x7 x8 hd
    rw [d_F_read_59bb] at hd
    refine v_iload dX6_read_59 rfl ?_
    refine v_iload dX6_read_61 rfl ?_
    refine v_icmp_ge (tgt := 135) dX6_read_63 (by decide) (fun zc57 => ?_) (fun zc57 => ?_)
    · have hd := g_t hd zc57
      refine v_loc [0, 5, 6] rfl ?_
      exact v_F_read_135 u x6 x7 hd
    · have hd := g_f hd zc57
      refine v_iload dX6_read_66 rfl ?_
      refine v_if_ne (tgt := 135) dX6_read_68 (by decide) (fun zc58 => ?_) (fun zc58 => ?_)
      · have hd := g_f hd zc58
        refine v_loc [0, 5, 6] rfl ?_
        exact v_F_read_135 u x6 x7 hd
      · have hd := g_t hd zc58
        refine v_iload_n dX6_read_71 rfl ?_
        refine v_iconst dX6_read_72 ic_2 ?_
        refine v_iload dX6_read_73 rfl ?_
        refine v_imul dX6_read_75 ?_
        refine v_iadd dX6_read_76 ?_
        refine v_topi (fun zy59 ze60 => ?_)
        have hd := dl_n hd zy59 ze60
        refine v_istore (i := 9) (L2 := [(9, .int zy59), (0, .ref 0), (2, .int x2), (3, .int x3), (4, .int x4), (5, .ref 51), (6, .int x6), (7, .int x7), (8, .int x8)]) dX6_read_77 (Nat.le_of_ble_eq_true rfl) rfl ?_
        refine v_aload dX6_read_79 rfl ?_
        refine v_iload_n dX6_read_81 rfl ?_
        refine v_iload dX6_read_82 rfl ?_
        obtain ⟨zr61, zh62, hd⟩ := g_bind hd
        refine v_cV (dy := 2) (st := []) (st2 := [.int zr61]) (h2 := (h_F u)) [51, 52] dX6_read_84 mv_X6_248 (m_S_tearOfPair (sh u 51) x2 zy59 zh62) rfl rfl rfl rfl rfl rfl rfl rfl (by decide) (by decide) rfl rfl rfl ?_
        refine v_istore (i := 6) (L2 := [(6, .int zr61), (9, .int zy59), (0, .ref 0), (2, .int x2), (3, .int x3), (4, .int x4), (5, .ref 51), (7, .int x7), (8, .int x8)]) dX6_read_87 (Nat.le_of_ble_eq_true rfl) rfl ?_
        refine v_iload dX6_read_89 rfl ?_
        refine v_if_ne (tgt := 129) dX6_read_91 (by decide) (fun zc63 => ?_) (fun zc63 => ?_)
        · have hd := g_f hd zc63
          refine v_loc [2, 3, 4, 5, 6, 0, 7, 8] rfl ?_
          exact v_F_read_129bb (d_F_read_59bb f) (ih) u x2 x3 x4 zr61 x7 x8 hd
        · have hd := g_t hd zc63
          refine v_aload_n dX6_read_94 rfl ?_
          refine v_get (v := .ref 16) dX6_read_95 fl_X6_23 rfl rfl ?_
          refine v_aload dX6_read_98 rfl ?_
          refine v_iload dX6_read_100 rfl ?_
          obtain ⟨zr66, zh67, hd⟩ := g_bind hd
          refine v_cV (dy := 1) (st := [.ref 16]) (st2 := [.int zr66, .ref 16]) (h2 := (h_F u)) [51, 52] dX6_read_102 mv_X6_251 (m_S_cellAt (sh u 51) zy59 zh67) rfl rfl rfl rfl rfl rfl rfl rfl (by decide) (by decide) rfl rfl rfl ?_
          refine v_aload dX6_read_105 rfl ?_
          refine v_iload dX6_read_107 rfl ?_
          refine v_iconst dX6_read_109 ic_1 ?_
          refine v_iadd dX6_read_110 ?_
          obtain ⟨zr68, zh69, hd⟩ := g_bind hd
          refine v_cV (dy := 1) (st := [.int zr66, .ref 16]) (st2 := [.int zr68, .int zr66, .ref 16]) (h2 := (h_F u)) [51, 52] dX6_read_111 mv_X6_251 (m_S_cellAt (sh u 51) (zy59 + (1 : Int32)) zh69) rfl rfl rfl rfl rfl rfl rfl rfl (by decide) (by decide) rfl rfl rfl ?_
          obtain ⟨zr70, zh71, hd⟩ := g_bind hd
          refine v_cV (dy := 2) (st := []) (st2 := [.int zr70.1]) (h2 := (h_F (pt u 16 5 zr70.2))) [16, 17, 18, 19, 20] dX6_read_114 mv_X6_141 (m_C_giveAhead (sh u 16) zr66 zr68 zh71) rfl rfl rfl rfl rfl rfl rfl rfl (by decide) (by decide) rfl rfl rfl ?_
          refine v_if_ge (tgt := 126) dX6_read_117 (by decide) (fun zc72 => ?_) (fun zc72 => ?_)
          · have hd := g_t hd zc72
            obtain ⟨zy73, ze74⟩ : ∃ z : Int32, z = (x7 + (1 : Int32)) := ⟨_, rfl⟩
            have hd := dl_n hd zy73 ze74
            refine v_iinc (v := zy73) (L2 := [(7, .int zy73), (6, .int zr61), (9, .int zy59), (0, .ref 0), (2, .int x2), (3, .int x3), (4, .int x4), (5, .ref 51), (8, .int x8)]) dX6_read_126 rfl (by rw [ic_1]; exact ze74.symm) (Nat.le_of_ble_eq_true rfl) rfl ?_
            refine v_loc [3, 4, 5, 6, 7, 1, 0, 8] rfl ?_
            exact v_F_read_129bb (d_F_read_59bb f) (ih) (pt u 16 5 zr70.2) x2 x3 x4 zr61 zy73 x8 hd
          · have hd := g_f hd zc72
            refine v_bipush dX6_read_120 bp_m20 ?_
            refine v_iload dX6_read_122 rfl ?_
            refine v_isub dX6_read_124 ?_
            obtain rfl := Option.some.inj hd
            exact v_iretE dX6_read_125 rfl rfl rfl rfl

def d_F_read_129bbb (k59 : (Nat → Nat → Int32) → Int32 → Int32 → Int32 → Int32 → Int32 → Int32 → Option (Int32 × (Nat → Nat → Int32))) (u : (Nat → Nat → Int32)) (x2 : Int32) (x3 : Int32) (x4 : Int32) (x6 : Int32) (x7 : Int32) (x8 : Int32) : Option (Int32 × (Nat → Nat → Int32)) := dl (x8 + (1 : Int32)) fun zy85 => k59 u x2 x3 x4 x6 x7 zy85
set_option maxRecDepth 100000 in
set_option maxHeartbeats 4000000 in
theorem v_F_read_129bbb  {r : Int32 × (Nat → Nat → Int32)} (k59 : (Nat → Nat → Int32) → Int32 → Int32 → Int32 → Int32 → Int32 → Int32 → Option (Int32 × (Nat → Nat → Int32))) (hk59 : ∀ (u : (Nat → Nat → Int32)) (x2 : Int32) (x3 : Int32) (x4 : Int32) (x6 : Int32) (x7 : Int32) (x8 : Int32), k59 u x2 x3 x4 x6 x7 x8 = some r → Vd RX6 "read" cX6_read 10 (some .int) (rm 3) (ab_eq (some (.int r.1)) (h_F r.2)) 0 0 0 0 59 [(0, .ref 0), (2, .int x2), (3, .int x3), (4, .int x4), (5, .ref 53), (6, .int x6), (7, .int x7), (8, .int x8)] [] (h_F u)) (u : (Nat → Nat → Int32)) (x2 : Int32) (x3 : Int32) (x4 : Int32) (x6 : Int32) (x7 : Int32) (x8 : Int32) (hd : d_F_read_129bbb k59 u x2 x3 x4 x6 x7 x8 = some r) : Vd RX6 "read" cX6_read 10 (some .int) (rm 3) (ab_eq (some (.int r.1)) (h_F r.2)) 0 0 0 0 129 [(0, .ref 0), (2, .int x2), (3, .int x3), (4, .int x4), (5, .ref 53), (6, .int x6), (7, .int x7), (8, .int x8)] [] (h_F u) := by
  unfold d_F_read_129bbb at hd
  obtain ⟨zy85, ze86⟩ : ∃ z : Int32, z = (x8 + (1 : Int32)) := ⟨_, rfl⟩
  have hd := dl_n hd zy85 ze86
  refine v_iinc (v := zy85) (L2 := [(8, .int zy85), (0, .ref 0), (2, .int x2), (3, .int x3), (4, .int x4), (5, .ref 53), (6, .int x6), (7, .int x7)]) dX6_read_129 rfl (by rw [ic_1]; exact ze86.symm) (Nat.le_of_ble_eq_true rfl) rfl ?_
  refine v_goto (tgt := 59) dX6_read_132 (by decide) ?_
  refine v_loc [1, 2, 3, 4, 5, 6, 7, 0] rfl ?_
  exact hk59 u x2 x3 x4 x6 x7 zy85 hd

def d_F_read_59bbb  : Nat → (Nat → Nat → Int32) → Int32 → Int32 → Int32 → Int32 → Int32 → Int32 → Option (Int32 × (Nat → Nat → Int32))
  | 0, _, _, _, _, _, _, _ => none
  | f + 1, u, x2, x3, x4, x6, x7, x8 => if x4 ≤ x8 then (d_F_read_135 u x6 x7) else (if x6 = 0 then (dl (x3 + ((2 : Int32) * x8)) fun zy80 => (d_S_tearOfPair (sh u 53) x2 zy80).bind fun zr82 => if zr82 = 0 then ((d_S_cellAt (sh u 53) zy80).bind fun zr87 => (d_S_cellAt (sh u 53) (zy80 + (1 : Int32))).bind fun zr89 => (d_C_giveAhead (sh u 16) zr87 zr89).bind fun zr91 => if 0 ≤ zr91.1 then (dl (x7 + (1 : Int32)) fun zy94 => d_F_read_129bbb (d_F_read_59bbb f) (pt u 16 5 zr91.2) x2 x3 x4 zr82 zy94 x8) else (some (((-20 : Int32) - x8), (pt u 16 5 zr91.2)))) else (d_F_read_129bbb (d_F_read_59bbb f) u x2 x3 x4 zr82 x7 x8)) else (d_F_read_135 u x6 x7))
set_option maxRecDepth 100000 in
set_option maxHeartbeats 4000000 in
theorem v_F_read_59bbb  {r : Int32 × (Nat → Nat → Int32)}  : ∀ (f : Nat) (u : (Nat → Nat → Int32)) (x2 : Int32) (x3 : Int32) (x4 : Int32) (x6 : Int32) (x7 : Int32) (x8 : Int32), d_F_read_59bbb  f u x2 x3 x4 x6 x7 x8 = some r → Vd RX6 "read" cX6_read 10 (some .int) (rm 3) (ab_eq (some (.int r.1)) (h_F r.2)) 0 0 0 0 59 [(0, .ref 0), (2, .int x2), (3, .int x3), (4, .int x4), (5, .ref 53), (6, .int x6), (7, .int x7), (8, .int x8)] [] (h_F u) := by
  intro f
  induction f with
  | zero =>
    intro u x2 x3 x4 x6 x7 x8 hd
    rw [d_F_read_59bbb] at hd
    cases hd
  | succ f ih =>
    intro u x2 x3 x4 x6 x7 x8 hd
    rw [d_F_read_59bbb] at hd
    refine v_iload dX6_read_59 rfl ?_
    refine v_iload dX6_read_61 rfl ?_
    refine v_icmp_ge (tgt := 135) dX6_read_63 (by decide) (fun zc78 => ?_) (fun zc78 => ?_)
    · have hd := g_t hd zc78
      refine v_loc [0, 5, 6] rfl ?_
      exact v_F_read_135 u x6 x7 hd
    · have hd := g_f hd zc78
      refine v_iload dX6_read_66 rfl ?_
      refine v_if_ne (tgt := 135) dX6_read_68 (by decide) (fun zc79 => ?_) (fun zc79 => ?_)
      · have hd := g_f hd zc79
        refine v_loc [0, 5, 6] rfl ?_
        exact v_F_read_135 u x6 x7 hd
      · have hd := g_t hd zc79
        refine v_iload_n dX6_read_71 rfl ?_
        refine v_iconst dX6_read_72 ic_2 ?_
        refine v_iload dX6_read_73 rfl ?_
        refine v_imul dX6_read_75 ?_
        refine v_iadd dX6_read_76 ?_
        refine v_topi (fun zy80 ze81 => ?_)
        have hd := dl_n hd zy80 ze81
        refine v_istore (i := 9) (L2 := [(9, .int zy80), (0, .ref 0), (2, .int x2), (3, .int x3), (4, .int x4), (5, .ref 53), (6, .int x6), (7, .int x7), (8, .int x8)]) dX6_read_77 (Nat.le_of_ble_eq_true rfl) rfl ?_
        refine v_aload dX6_read_79 rfl ?_
        refine v_iload_n dX6_read_81 rfl ?_
        refine v_iload dX6_read_82 rfl ?_
        obtain ⟨zr82, zh83, hd⟩ := g_bind hd
        refine v_cV (dy := 2) (st := []) (st2 := [.int zr82]) (h2 := (h_F u)) [53, 54] dX6_read_84 mv_X6_248 (m_S_tearOfPair (sh u 53) x2 zy80 zh83) rfl rfl rfl rfl rfl rfl rfl rfl (by decide) (by decide) rfl rfl rfl ?_
        refine v_istore (i := 6) (L2 := [(6, .int zr82), (9, .int zy80), (0, .ref 0), (2, .int x2), (3, .int x3), (4, .int x4), (5, .ref 53), (7, .int x7), (8, .int x8)]) dX6_read_87 (Nat.le_of_ble_eq_true rfl) rfl ?_
        refine v_iload dX6_read_89 rfl ?_
        refine v_if_ne (tgt := 129) dX6_read_91 (by decide) (fun zc84 => ?_) (fun zc84 => ?_)
        · have hd := g_f hd zc84
          refine v_loc [2, 3, 4, 5, 6, 0, 7, 8] rfl ?_
          exact v_F_read_129bbb (d_F_read_59bbb f) (ih) u x2 x3 x4 zr82 x7 x8 hd
        · have hd := g_t hd zc84
          refine v_aload_n dX6_read_94 rfl ?_
          refine v_get (v := .ref 16) dX6_read_95 fl_X6_23 rfl rfl ?_
          refine v_aload dX6_read_98 rfl ?_
          refine v_iload dX6_read_100 rfl ?_
          obtain ⟨zr87, zh88, hd⟩ := g_bind hd
          refine v_cV (dy := 1) (st := [.ref 16]) (st2 := [.int zr87, .ref 16]) (h2 := (h_F u)) [53, 54] dX6_read_102 mv_X6_251 (m_S_cellAt (sh u 53) zy80 zh88) rfl rfl rfl rfl rfl rfl rfl rfl (by decide) (by decide) rfl rfl rfl ?_
          refine v_aload dX6_read_105 rfl ?_
          refine v_iload dX6_read_107 rfl ?_
          refine v_iconst dX6_read_109 ic_1 ?_
          refine v_iadd dX6_read_110 ?_
          obtain ⟨zr89, zh90, hd⟩ := g_bind hd
          refine v_cV (dy := 1) (st := [.int zr87, .ref 16]) (st2 := [.int zr89, .int zr87, .ref 16]) (h2 := (h_F u)) [53, 54] dX6_read_111 mv_X6_251 (m_S_cellAt (sh u 53) (zy80 + (1 : Int32)) zh90) rfl rfl rfl rfl rfl rfl rfl rfl (by decide) (by decide) rfl rfl rfl ?_
          obtain ⟨zr91, zh92, hd⟩ := g_bind hd
          refine v_cV (dy := 2) (st := []) (st2 := [.int zr91.1]) (h2 := (h_F (pt u 16 5 zr91.2))) [16, 17, 18, 19, 20] dX6_read_114 mv_X6_141 (m_C_giveAhead (sh u 16) zr87 zr89 zh92) rfl rfl rfl rfl rfl rfl rfl rfl (by decide) (by decide) rfl rfl rfl ?_
          refine v_if_ge (tgt := 126) dX6_read_117 (by decide) (fun zc93 => ?_) (fun zc93 => ?_)
          · have hd := g_t hd zc93
            obtain ⟨zy94, ze95⟩ : ∃ z : Int32, z = (x7 + (1 : Int32)) := ⟨_, rfl⟩
            have hd := dl_n hd zy94 ze95
            refine v_iinc (v := zy94) (L2 := [(7, .int zy94), (6, .int zr82), (9, .int zy80), (0, .ref 0), (2, .int x2), (3, .int x3), (4, .int x4), (5, .ref 53), (8, .int x8)]) dX6_read_126 rfl (by rw [ic_1]; exact ze95.symm) (Nat.le_of_ble_eq_true rfl) rfl ?_
            refine v_loc [3, 4, 5, 6, 7, 1, 0, 8] rfl ?_
            exact v_F_read_129bbb (d_F_read_59bbb f) (ih) (pt u 16 5 zr91.2) x2 x3 x4 zr82 zy94 x8 hd
          · have hd := g_f hd zc93
            refine v_bipush dX6_read_120 bp_m20 ?_
            refine v_iload dX6_read_122 rfl ?_
            refine v_isub dX6_read_124 ?_
            obtain rfl := Option.some.inj hd
            exact v_iretE dX6_read_125 rfl rfl rfl rfl
def d_F_read (u : (Nat → Nat → Int32)) (a1 : Int32) (a2 : Int32) (a3 : Int32) (a4 : Int32) : Option (Int32 × (Nat → Nat → Int32)) := (d_P_outside a1 (0 : Int32) (3 : Int32)).bind fun zr1 => if zr1 = 0 then ((d_P_outside a2 (0 : Int32) (2 : Int32)).bind fun zr4 => if zr4 = 0 then ((d_P_outside a4 (0 : Int32) (20 : Int32)).bind fun zr7 => if zr7 = 0 then (if a1 = (0 : Int32) then ((d_CC_becomeLike (sj (sh u 16) (sh u 11) 5)).bind fun zr11 => d_F_read_59 FU (pt (pt u 16 5 zr11) 11 5 (sh zr11 5)) a2 a3 a4 (0 : Int32) (0 : Int32) (0 : Int32)) else if a1 = (1 : Int32) then ((d_CC_becomeLike (sj (sh u 16) (sh u 11) 5)).bind fun zr34 => d_F_read_59b FU (pt (pt u 16 5 zr34) 11 5 (sh zr34 5)) a2 a3 a4 (0 : Int32) (0 : Int32) (0 : Int32)) else if a1 = (2 : Int32) then ((d_CC_becomeLike (sj (sh u 16) (sh u 11) 5)).bind fun zr55 => d_F_read_59bb FU (pt (pt u 16 5 zr55) 11 5 (sh zr55 5)) a2 a3 a4 (0 : Int32) (0 : Int32) (0 : Int32)) else if a1 = (3 : Int32) then ((d_CC_becomeLike (sj (sh u 16) (sh u 11) 5)).bind fun zr76 => d_F_read_59bbb FU (pt (pt u 16 5 zr76) 11 5 (sh zr76 5)) a2 a3 a4 (0 : Int32) (0 : Int32) (0 : Int32)) else none) else (some ((-1 : Int32), u))) else (some ((-1 : Int32), u))) else (some ((-1 : Int32), u))
set_option maxRecDepth 100000 in
set_option maxHeartbeats 4000000 in
theorem v_F_read (u : (Nat → Nat → Int32)) (a1 : Int32) (a2 : Int32) (a3 : Int32) (a4 : Int32) {r : Int32 × (Nat → Nat → Int32)} (hd : d_F_read u a1 a2 a3 a4 = some r) : Vd RX6 "read" cX6_read 10 (some .int) (rm 3) (ab_eq (some (.int r.1)) (h_F r.2)) 0 0 0 0 0 [(0, .ref 0), (1, .int a1), (2, .int a2), (3, .int a3), (4, .int a4)] [] (h_F u) := by
  unfold d_F_read at hd
  refine v_iload_n dX6_read_0 rfl ?_
  refine v_iconst dX6_read_1 ic_0 ?_
  refine v_iconst dX6_read_2 ic_3 ?_
  obtain ⟨zr1, zh2, hd⟩ := g_bind hd
  refine v_cS (dy := 0) (st := []) (st2 := [.int zr1]) (h2 := (h_F u)) [] dX6_read_3 mz_X6_54 (m_P_outside a1 (0 : Int32) (3 : Int32) zh2) rfl rfl rfl rfl rfl rfl (by decide) (by decide) rfl rfl rfl ?_
  refine v_if_ne (tgt := 29) dX6_read_6 (by decide) (fun zc3 => ?_) (fun zc3 => ?_)
  · have hd := g_f hd zc3
    refine v_iconst dX6_read_29 ic_m1 ?_
    obtain rfl := Option.some.inj hd
    exact v_iretE dX6_read_30 rfl rfl rfl rfl
  · have hd := g_t hd zc3
    refine v_iload_n dX6_read_9 rfl ?_
    refine v_iconst dX6_read_10 ic_0 ?_
    refine v_iconst dX6_read_11 ic_2 ?_
    obtain ⟨zr4, zh5, hd⟩ := g_bind hd
    refine v_cS (dy := 0) (st := []) (st2 := [.int zr4]) (h2 := (h_F u)) [] dX6_read_12 mz_X6_54 (m_P_outside a2 (0 : Int32) (2 : Int32) zh5) rfl rfl rfl rfl rfl rfl (by decide) (by decide) rfl rfl rfl ?_
    refine v_if_ne (tgt := 29) dX6_read_15 (by decide) (fun zc6 => ?_) (fun zc6 => ?_)
    · have hd := g_f hd zc6
      refine v_iconst dX6_read_29 ic_m1 ?_
      obtain rfl := Option.some.inj hd
      exact v_iretE dX6_read_30 rfl rfl rfl rfl
    · have hd := g_t hd zc6
      refine v_iload dX6_read_18 rfl ?_
      refine v_iconst dX6_read_20 ic_0 ?_
      refine v_bipush dX6_read_21 bp_20 ?_
      obtain ⟨zr7, zh8, hd⟩ := g_bind hd
      refine v_cS (dy := 0) (st := []) (st2 := [.int zr7]) (h2 := (h_F u)) [] dX6_read_23 mz_X6_54 (m_P_outside a4 (0 : Int32) (20 : Int32) zh8) rfl rfl rfl rfl rfl rfl (by decide) (by decide) rfl rfl rfl ?_
      refine v_if_eq (tgt := 31) dX6_read_26 (by decide) (fun zc9 => ?_) (fun zc9 => ?_)
      · have hd := g_t hd zc9
        refine v_aload_n dX6_read_31 rfl ?_
        refine v_get (v := .ref 46) dX6_read_32 fl_X6_42 rfl rfl ?_
        refine v_iload_n dX6_read_35 rfl ?_
        by_cases zc10 : a1 = (0 : Int32)
        · have hd := g_t hd zc10
          refine v_aald (r := 47) dX6_read_36 rfl (Or.inr rfl) (by rw [zc10]; exact gi_in (by decide)) (by rw [zc10]; rfl) ?_
          refine v_astore (i := 5) (L2 := [(5, .ref 47), (0, .ref 0), (1, .int a1), (2, .int a2), (3, .int a3), (4, .int a4)]) dX6_read_37 (Nat.le_of_ble_eq_true rfl) rfl ?_
          refine v_aload_n dX6_read_39 rfl ?_
          refine v_get (v := .ref 16) dX6_read_40 fl_X6_23 rfl rfl ?_
          refine v_aload_n dX6_read_43 rfl ?_
          refine v_get (v := .ref 11) dX6_read_44 fl_X6_19 rfl rfl ?_
          obtain ⟨zr11, zh12, hd⟩ := g_bind hd
          refine v_cV (dy := 1) (st := []) (st2 := []) (h2 := (h_F (pt (pt u 16 5 zr11) 11 5 (sh zr11 5)))) [16, 17, 18, 19, 20, 11, 12, 13, 14, 15] dX6_read_47 mv_X6_87 (m_CC_becomeLike (sj (sh u 16) (sh u 11) 5) zh12) rfl rfl rfl rfl rfl rfl rfl rfl (by decide) (by decide) rfl rfl rfl ?_
          refine v_iconst dX6_read_50 ic_0 ?_
          refine v_istore (i := 6) (L2 := [(6, .int (0 : Int32)), (5, .ref 47), (0, .ref 0), (1, .int a1), (2, .int a2), (3, .int a3), (4, .int a4)]) dX6_read_51 (Nat.le_of_ble_eq_true rfl) rfl ?_
          refine v_iconst dX6_read_53 ic_0 ?_
          refine v_istore (i := 7) (L2 := [(7, .int (0 : Int32)), (6, .int (0 : Int32)), (5, .ref 47), (0, .ref 0), (1, .int a1), (2, .int a2), (3, .int a3), (4, .int a4)]) dX6_read_54 (Nat.le_of_ble_eq_true rfl) rfl ?_
          refine v_iconst dX6_read_56 ic_0 ?_
          refine v_istore (i := 8) (L2 := [(8, .int (0 : Int32)), (7, .int (0 : Int32)), (6, .int (0 : Int32)), (5, .ref 47), (0, .ref 0), (1, .int a1), (2, .int a2), (3, .int a3), (4, .int a4)]) dX6_read_57 (Nat.le_of_ble_eq_true rfl) rfl ?_
          refine v_loc [4, 6, 7, 8, 3, 2, 1, 0] rfl ?_
          exact v_F_read_59 FU (pt (pt u 16 5 zr11) 11 5 (sh zr11 5)) a2 a3 a4 (0 : Int32) (0 : Int32) (0 : Int32) hd
        have hd := g_f hd zc10
        by_cases zc33 : a1 = (1 : Int32)
        · have hd := g_t hd zc33
          refine v_aald (r := 49) dX6_read_36 rfl (Or.inr rfl) (by rw [zc33]; exact gi_in (by decide)) (by rw [zc33]; rfl) ?_
          refine v_astore (i := 5) (L2 := [(5, .ref 49), (0, .ref 0), (1, .int a1), (2, .int a2), (3, .int a3), (4, .int a4)]) dX6_read_37 (Nat.le_of_ble_eq_true rfl) rfl ?_
          refine v_aload_n dX6_read_39 rfl ?_
          refine v_get (v := .ref 16) dX6_read_40 fl_X6_23 rfl rfl ?_
          refine v_aload_n dX6_read_43 rfl ?_
          refine v_get (v := .ref 11) dX6_read_44 fl_X6_19 rfl rfl ?_
          obtain ⟨zr34, zh35, hd⟩ := g_bind hd
          refine v_cV (dy := 1) (st := []) (st2 := []) (h2 := (h_F (pt (pt u 16 5 zr34) 11 5 (sh zr34 5)))) [16, 17, 18, 19, 20, 11, 12, 13, 14, 15] dX6_read_47 mv_X6_87 (m_CC_becomeLike (sj (sh u 16) (sh u 11) 5) zh35) rfl rfl rfl rfl rfl rfl rfl rfl (by decide) (by decide) rfl rfl rfl ?_
          refine v_iconst dX6_read_50 ic_0 ?_
          refine v_istore (i := 6) (L2 := [(6, .int (0 : Int32)), (5, .ref 49), (0, .ref 0), (1, .int a1), (2, .int a2), (3, .int a3), (4, .int a4)]) dX6_read_51 (Nat.le_of_ble_eq_true rfl) rfl ?_
          refine v_iconst dX6_read_53 ic_0 ?_
          refine v_istore (i := 7) (L2 := [(7, .int (0 : Int32)), (6, .int (0 : Int32)), (5, .ref 49), (0, .ref 0), (1, .int a1), (2, .int a2), (3, .int a3), (4, .int a4)]) dX6_read_54 (Nat.le_of_ble_eq_true rfl) rfl ?_
          refine v_iconst dX6_read_56 ic_0 ?_
          refine v_istore (i := 8) (L2 := [(8, .int (0 : Int32)), (7, .int (0 : Int32)), (6, .int (0 : Int32)), (5, .ref 49), (0, .ref 0), (1, .int a1), (2, .int a2), (3, .int a3), (4, .int a4)]) dX6_read_57 (Nat.le_of_ble_eq_true rfl) rfl ?_
          refine v_loc [4, 6, 7, 8, 3, 2, 1, 0] rfl ?_
          exact v_F_read_59b FU (pt (pt u 16 5 zr34) 11 5 (sh zr34 5)) a2 a3 a4 (0 : Int32) (0 : Int32) (0 : Int32) hd
        have hd := g_f hd zc33
        by_cases zc54 : a1 = (2 : Int32)
        · have hd := g_t hd zc54
          refine v_aald (r := 51) dX6_read_36 rfl (Or.inr rfl) (by rw [zc54]; exact gi_in (by decide)) (by rw [zc54]; rfl) ?_
          refine v_astore (i := 5) (L2 := [(5, .ref 51), (0, .ref 0), (1, .int a1), (2, .int a2), (3, .int a3), (4, .int a4)]) dX6_read_37 (Nat.le_of_ble_eq_true rfl) rfl ?_
          refine v_aload_n dX6_read_39 rfl ?_
          refine v_get (v := .ref 16) dX6_read_40 fl_X6_23 rfl rfl ?_
          refine v_aload_n dX6_read_43 rfl ?_
          refine v_get (v := .ref 11) dX6_read_44 fl_X6_19 rfl rfl ?_
          obtain ⟨zr55, zh56, hd⟩ := g_bind hd
          refine v_cV (dy := 1) (st := []) (st2 := []) (h2 := (h_F (pt (pt u 16 5 zr55) 11 5 (sh zr55 5)))) [16, 17, 18, 19, 20, 11, 12, 13, 14, 15] dX6_read_47 mv_X6_87 (m_CC_becomeLike (sj (sh u 16) (sh u 11) 5) zh56) rfl rfl rfl rfl rfl rfl rfl rfl (by decide) (by decide) rfl rfl rfl ?_
          refine v_iconst dX6_read_50 ic_0 ?_
          refine v_istore (i := 6) (L2 := [(6, .int (0 : Int32)), (5, .ref 51), (0, .ref 0), (1, .int a1), (2, .int a2), (3, .int a3), (4, .int a4)]) dX6_read_51 (Nat.le_of_ble_eq_true rfl) rfl ?_
          refine v_iconst dX6_read_53 ic_0 ?_
          refine v_istore (i := 7) (L2 := [(7, .int (0 : Int32)), (6, .int (0 : Int32)), (5, .ref 51), (0, .ref 0), (1, .int a1), (2, .int a2), (3, .int a3), (4, .int a4)]) dX6_read_54 (Nat.le_of_ble_eq_true rfl) rfl ?_
          refine v_iconst dX6_read_56 ic_0 ?_
          refine v_istore (i := 8) (L2 := [(8, .int (0 : Int32)), (7, .int (0 : Int32)), (6, .int (0 : Int32)), (5, .ref 51), (0, .ref 0), (1, .int a1), (2, .int a2), (3, .int a3), (4, .int a4)]) dX6_read_57 (Nat.le_of_ble_eq_true rfl) rfl ?_
          refine v_loc [4, 6, 7, 8, 3, 2, 1, 0] rfl ?_
          exact v_F_read_59bb FU (pt (pt u 16 5 zr55) 11 5 (sh zr55 5)) a2 a3 a4 (0 : Int32) (0 : Int32) (0 : Int32) hd
        have hd := g_f hd zc54
        by_cases zc75 : a1 = (3 : Int32)
        · have hd := g_t hd zc75
          refine v_aald (r := 53) dX6_read_36 rfl (Or.inr rfl) (by rw [zc75]; exact gi_in (by decide)) (by rw [zc75]; rfl) ?_
          refine v_astore (i := 5) (L2 := [(5, .ref 53), (0, .ref 0), (1, .int a1), (2, .int a2), (3, .int a3), (4, .int a4)]) dX6_read_37 (Nat.le_of_ble_eq_true rfl) rfl ?_
          refine v_aload_n dX6_read_39 rfl ?_
          refine v_get (v := .ref 16) dX6_read_40 fl_X6_23 rfl rfl ?_
          refine v_aload_n dX6_read_43 rfl ?_
          refine v_get (v := .ref 11) dX6_read_44 fl_X6_19 rfl rfl ?_
          obtain ⟨zr76, zh77, hd⟩ := g_bind hd
          refine v_cV (dy := 1) (st := []) (st2 := []) (h2 := (h_F (pt (pt u 16 5 zr76) 11 5 (sh zr76 5)))) [16, 17, 18, 19, 20, 11, 12, 13, 14, 15] dX6_read_47 mv_X6_87 (m_CC_becomeLike (sj (sh u 16) (sh u 11) 5) zh77) rfl rfl rfl rfl rfl rfl rfl rfl (by decide) (by decide) rfl rfl rfl ?_
          refine v_iconst dX6_read_50 ic_0 ?_
          refine v_istore (i := 6) (L2 := [(6, .int (0 : Int32)), (5, .ref 53), (0, .ref 0), (1, .int a1), (2, .int a2), (3, .int a3), (4, .int a4)]) dX6_read_51 (Nat.le_of_ble_eq_true rfl) rfl ?_
          refine v_iconst dX6_read_53 ic_0 ?_
          refine v_istore (i := 7) (L2 := [(7, .int (0 : Int32)), (6, .int (0 : Int32)), (5, .ref 53), (0, .ref 0), (1, .int a1), (2, .int a2), (3, .int a3), (4, .int a4)]) dX6_read_54 (Nat.le_of_ble_eq_true rfl) rfl ?_
          refine v_iconst dX6_read_56 ic_0 ?_
          refine v_istore (i := 8) (L2 := [(8, .int (0 : Int32)), (7, .int (0 : Int32)), (6, .int (0 : Int32)), (5, .ref 53), (0, .ref 0), (1, .int a1), (2, .int a2), (3, .int a3), (4, .int a4)]) dX6_read_57 (Nat.le_of_ble_eq_true rfl) rfl ?_
          refine v_loc [4, 6, 7, 8, 3, 2, 1, 0] rfl ?_
          exact v_F_read_59bbb FU (pt (pt u 16 5 zr76) 11 5 (sh zr76 5)) a2 a3 a4 (0 : Int32) (0 : Int32) (0 : Int32) hd
        have hd := g_f hd zc75
        cases hd
      · have hd := g_f hd zc9
        refine v_iconst dX6_read_29 ic_m1 ?_
        obtain rfl := Option.some.inj hd
        exact v_iretE dX6_read_30 rfl rfl rfl rfl
theorem m_F_read (u : (Nat → Nat → Int32)) (a1 : Int32) (a2 : Int32) (a3 : Int32) (a4 : Int32) {r : Int32 × (Nat → Nat → Int32)} (hd : d_F_read u a1 a2 a3 a4 = some r) : Mt yX6_read cX6_read 10 (some .int) (rm 3) [.ref 0, .int a1, .int a2, .int a3, .int a4] (h_F u) (ab_eq (some (.int r.1)) (h_F r.2)) := Mt.of (by decide +kernel) (fun _ _ _ => trivial) (Nat.le_of_ble_eq_true rfl) (v_F_read u a1 a2 a3 a4 hd)
def d_F_torn (u : (Nat → Nat → Int32)) : Option Int32 := some (u 0 9)
set_option maxRecDepth 100000 in
set_option maxHeartbeats 4000000 in
theorem v_F_torn (u : (Nat → Nat → Int32)) {r : Int32} (hd : d_F_torn u = some r) : Vd RX6 "torn" cX6_torn 1 (some .int) (rm 0) (ab_eq (some (.int r)) (h_F u)) 0 0 0 0 0 [(0, .ref 0)] [] (h_F u) := by
  unfold d_F_torn at hd
  refine v_aload_n dX6_torn_0 rfl ?_
  refine v_get (v := .int (u 0 9)) dX6_torn_1 fl_X6_254 rfl rfl ?_
  obtain rfl := Option.some.inj hd
  exact v_iretE dX6_torn_4 rfl rfl rfl rfl
theorem m_F_torn (u : (Nat → Nat → Int32)) {r : Int32} (hd : d_F_torn u = some r) : Mt yX6_torn cX6_torn 1 (some .int) (rm 0) [.ref 0] (h_F u) (ab_eq (some (.int r)) (h_F u)) := Mt.of (by decide +kernel) (fun _ _ _ => trivial) (Nat.le_of_ble_eq_true rfl) (v_F_torn u hd)

def d_F_imagesKept_24 (k4 : (Nat → Nat → Int32) → Int32 → Int32 → Option Int32) (u : (Nat → Nat → Int32)) (x1 : Int32) (x2 : Int32) : Option Int32 := dl (x2 + (1 : Int32)) fun zy4 => k4 u x1 zy4
set_option maxRecDepth 100000 in
set_option maxHeartbeats 4000000 in
theorem v_F_imagesKept_24  {r : Int32} (k4 : (Nat → Nat → Int32) → Int32 → Int32 → Option Int32) (hk4 : ∀ (u : (Nat → Nat → Int32)) (x1 : Int32) (x2 : Int32), k4 u x1 x2 = some r → Vd RX6 "imagesKept" cX6_imagesKept 3 (some .int) (rm 0) (ab_eq (some (.int r)) (h_F u)) 0 0 0 0 4 [(0, .ref 0), (1, .int x1), (2, .int x2)] [] (h_F u)) (u : (Nat → Nat → Int32)) (x1 : Int32) (x2 : Int32) (hd : d_F_imagesKept_24 k4 u x1 x2 = some r) : Vd RX6 "imagesKept" cX6_imagesKept 3 (some .int) (rm 0) (ab_eq (some (.int r)) (h_F u)) 0 0 0 0 24 [(0, .ref 0), (1, .int x1), (2, .int x2)] [] (h_F u) := by
  unfold d_F_imagesKept_24 at hd
  obtain ⟨zy4, ze5⟩ : ∃ z : Int32, z = (x2 + (1 : Int32)) := ⟨_, rfl⟩
  have hd := dl_n hd zy4 ze5
  refine v_iinc (v := zy4) (L2 := [(2, .int zy4), (0, .ref 0), (1, .int x1)]) dX6_imagesKept_24 rfl (by rw [ic_1]; exact ze5.symm) (Nat.le_of_ble_eq_true rfl) rfl ?_
  refine v_goto (tgt := 4) dX6_imagesKept_27 (by decide) ?_
  refine v_loc [1, 2, 0] rfl ?_
  exact hk4 u x1 zy4 hd

def d_F_imagesKept_4  : Nat → (Nat → Nat → Int32) → Int32 → Int32 → Option Int32
  | 0, _, _, _ => none
  | f + 1, u, x1, x2 => if (2 : Int32) ≤ x2 then (some x1) else (if x2 = (0 : Int32) then (if (u 26 2) = 0 then (d_F_imagesKept_24 (d_F_imagesKept_4 f) u x1 x2) else (dl (x1 + (1 : Int32)) fun zy6 => d_F_imagesKept_24 (d_F_imagesKept_4 f) u zy6 x2)) else if x2 = (1 : Int32) then (if (u 36 2) = 0 then (d_F_imagesKept_24 (d_F_imagesKept_4 f) u x1 x2) else (dl (x1 + (1 : Int32)) fun zy10 => d_F_imagesKept_24 (d_F_imagesKept_4 f) u zy10 x2)) else none)
set_option maxRecDepth 100000 in
set_option maxHeartbeats 4000000 in
theorem v_F_imagesKept_4  {r : Int32}  : ∀ (f : Nat) (u : (Nat → Nat → Int32)) (x1 : Int32) (x2 : Int32), d_F_imagesKept_4  f u x1 x2 = some r → Vd RX6 "imagesKept" cX6_imagesKept 3 (some .int) (rm 0) (ab_eq (some (.int r)) (h_F u)) 0 0 0 0 4 [(0, .ref 0), (1, .int x1), (2, .int x2)] [] (h_F u) := by
  intro f
  induction f with
  | zero =>
    intro u x1 x2 hd
    rw [d_F_imagesKept_4] at hd
    cases hd
  | succ f ih =>
    intro u x1 x2 hd
    rw [d_F_imagesKept_4] at hd
    refine v_iload_n dX6_imagesKept_4 rfl ?_
    refine v_iconst dX6_imagesKept_5 ic_2 ?_
    refine v_icmp_ge (tgt := 30) dX6_imagesKept_6 (by decide) (fun zc1 => ?_) (fun zc1 => ?_)
    · have hd := g_t hd zc1
      refine v_iload_n dX6_imagesKept_30 rfl ?_
      obtain rfl := Option.some.inj hd
      exact v_iretE dX6_imagesKept_31 rfl rfl rfl rfl
    · have hd := g_f hd zc1
      refine v_aload_n dX6_imagesKept_9 rfl ?_
      refine v_get (v := .ref 25) dX6_imagesKept_10 fl_X6_35 rfl rfl ?_
      refine v_iload_n dX6_imagesKept_13 rfl ?_
      by_cases zc2 : x2 = (0 : Int32)
      · have hd := g_t hd zc2
        refine v_aald (r := 26) dX6_imagesKept_14 rfl (Or.inl rfl) (by rw [zc2]; exact gi_in (by decide)) (by rw [zc2]; rfl) ?_
        refine v_get (v := .int (u 26 2)) dX6_imagesKept_15 fl_X6_94 rfl rfl ?_
        refine v_if_eq (tgt := 24) dX6_imagesKept_18 (by decide) (fun zc3 => ?_) (fun zc3 => ?_)
        · have hd := g_t hd zc3
          exact v_F_imagesKept_24 (d_F_imagesKept_4 f) (ih) u x1 x2 hd
        · have hd := g_f hd zc3
          obtain ⟨zy6, ze7⟩ : ∃ z : Int32, z = (x1 + (1 : Int32)) := ⟨_, rfl⟩
          have hd := dl_n hd zy6 ze7
          refine v_iinc (v := zy6) (L2 := [(1, .int zy6), (0, .ref 0), (2, .int x2)]) dX6_imagesKept_21 rfl (by rw [ic_1]; exact ze7.symm) (Nat.le_of_ble_eq_true rfl) rfl ?_
          refine v_loc [1, 0, 2] rfl ?_
          exact v_F_imagesKept_24 (d_F_imagesKept_4 f) (ih) u zy6 x2 hd
      have hd := g_f hd zc2
      by_cases zc8 : x2 = (1 : Int32)
      · have hd := g_t hd zc8
        refine v_aald (r := 36) dX6_imagesKept_14 rfl (Or.inl rfl) (by rw [zc8]; exact gi_in (by decide)) (by rw [zc8]; rfl) ?_
        refine v_get (v := .int (u 36 2)) dX6_imagesKept_15 fl_X6_94 rfl rfl ?_
        refine v_if_eq (tgt := 24) dX6_imagesKept_18 (by decide) (fun zc9 => ?_) (fun zc9 => ?_)
        · have hd := g_t hd zc9
          exact v_F_imagesKept_24 (d_F_imagesKept_4 f) (ih) u x1 x2 hd
        · have hd := g_f hd zc9
          obtain ⟨zy10, ze11⟩ : ∃ z : Int32, z = (x1 + (1 : Int32)) := ⟨_, rfl⟩
          have hd := dl_n hd zy10 ze11
          refine v_iinc (v := zy10) (L2 := [(1, .int zy10), (0, .ref 0), (2, .int x2)]) dX6_imagesKept_21 rfl (by rw [ic_1]; exact ze11.symm) (Nat.le_of_ble_eq_true rfl) rfl ?_
          refine v_loc [1, 0, 2] rfl ?_
          exact v_F_imagesKept_24 (d_F_imagesKept_4 f) (ih) u zy10 x2 hd
      have hd := g_f hd zc8
      cases hd
def d_F_imagesKept (u : (Nat → Nat → Int32)) : Option Int32 := d_F_imagesKept_4 FU u (0 : Int32) (0 : Int32)
set_option maxRecDepth 100000 in
set_option maxHeartbeats 4000000 in
theorem v_F_imagesKept (u : (Nat → Nat → Int32)) {r : Int32} (hd : d_F_imagesKept u = some r) : Vd RX6 "imagesKept" cX6_imagesKept 3 (some .int) (rm 0) (ab_eq (some (.int r)) (h_F u)) 0 0 0 0 0 [(0, .ref 0)] [] (h_F u) := by
  unfold d_F_imagesKept at hd
  refine v_iconst dX6_imagesKept_0 ic_0 ?_
  refine v_istore_n (i := 1) (L2 := [(1, .int (0 : Int32)), (0, .ref 0)]) dX6_imagesKept_1 rfl (Nat.le_of_ble_eq_true rfl) rfl ?_
  refine v_iconst dX6_imagesKept_2 ic_0 ?_
  refine v_istore_n (i := 2) (L2 := [(2, .int (0 : Int32)), (1, .int (0 : Int32)), (0, .ref 0)]) dX6_imagesKept_3 rfl (Nat.le_of_ble_eq_true rfl) rfl ?_
  refine v_loc [2, 1, 0] rfl ?_
  exact v_F_imagesKept_4 FU u (0 : Int32) (0 : Int32) hd
theorem m_F_imagesKept (u : (Nat → Nat → Int32)) {r : Int32} (hd : d_F_imagesKept u = some r) : Mt yX6_imagesKept cX6_imagesKept 3 (some .int) (rm 0) [.ref 0] (h_F u) (ab_eq (some (.int r)) (h_F u)) := Mt.of (by decide +kernel) (fun _ _ _ => trivial) (Nat.le_of_ble_eq_true rfl) (v_F_imagesKept u hd)
def d_F_count (u : (Nat → Nat → Int32)) (a1 : Int32) : Option Int32 := if a1 = (0 : Int32) then ((d_C_allLost (sh u 11)).bind fun zr2 => some zr2) else if a1 = (1 : Int32) then (some (u 21 3)) else if a1 = (2 : Int32) then ((d_F_imagesKept u).bind fun zr6 => some zr6) else if a1 = (3 : Int32) then (some (u 2 2)) else if a1 = (4 : Int32) then (if (0 : Int32) = (0 : Int32) then (if (u 47 1) = 0 then (some (-4 : Int32)) else (if (0 : Int32) = (0 : Int32) then (some (u 47 3)) else if (0 : Int32) = (1 : Int32) then (some (u 49 3)) else if (0 : Int32) = (2 : Int32) then (some (u 51 3)) else if (0 : Int32) = (3 : Int32) then (some (u 53 3)) else none)) else if (0 : Int32) = (1 : Int32) then (if (u 49 1) = 0 then (some (-4 : Int32)) else (if (0 : Int32) = (0 : Int32) then (some (u 47 3)) else if (0 : Int32) = (1 : Int32) then (some (u 49 3)) else if (0 : Int32) = (2 : Int32) then (some (u 51 3)) else if (0 : Int32) = (3 : Int32) then (some (u 53 3)) else none)) else if (0 : Int32) = (2 : Int32) then (if (u 51 1) = 0 then (some (-4 : Int32)) else (if (0 : Int32) = (0 : Int32) then (some (u 47 3)) else if (0 : Int32) = (1 : Int32) then (some (u 49 3)) else if (0 : Int32) = (2 : Int32) then (some (u 51 3)) else if (0 : Int32) = (3 : Int32) then (some (u 53 3)) else none)) else if (0 : Int32) = (3 : Int32) then (if (u 53 1) = 0 then (some (-4 : Int32)) else (if (0 : Int32) = (0 : Int32) then (some (u 47 3)) else if (0 : Int32) = (1 : Int32) then (some (u 49 3)) else if (0 : Int32) = (2 : Int32) then (some (u 51 3)) else if (0 : Int32) = (3 : Int32) then (some (u 53 3)) else none)) else none) else (some (-1 : Int32))
set_option maxRecDepth 100000 in
set_option maxHeartbeats 4000000 in
theorem v_F_count (u : (Nat → Nat → Int32)) (a1 : Int32) {r : Int32} (hd : d_F_count u a1 = some r) : Vd RX6 "count" cX6_count 2 (some .int) (rm 1) (ab_eq (some (.int r)) (h_F u)) 0 0 0 0 0 [(0, .ref 0), (1, .int a1)] [] (h_F u) := by
  unfold d_F_count at hd
  refine v_iload_n dX6_count_0 rfl ?_
  by_cases zc1 : a1 = (0 : Int32)
  · have hd := g_t hd zc1
    refine v_tIn (0 : Int32) (tgt := 36) dX6_count_1 zc1 (by decide) (by decide) rfl (by decide) ?_
    refine v_aload_n dX6_count_36 rfl ?_
    refine v_get (v := .ref 11) dX6_count_37 fl_X6_19 rfl rfl ?_
    obtain ⟨zr2, zh3, hd⟩ := g_bind hd
    refine v_cV (dy := 0) (st := []) (st2 := [.int zr2]) (h2 := (h_F u)) [11, 12, 13, 14, 15] dX6_count_40 mv_X6_257 (m_C_allLost (sh u 11) zh3) rfl rfl rfl rfl rfl rfl rfl rfl (by decide) (by decide) rfl rfl rfl ?_
    obtain rfl := Option.some.inj hd
    exact v_iretE dX6_count_43 rfl rfl rfl rfl
  have hd := g_f hd zc1
  by_cases zc4 : a1 = (1 : Int32)
  · have hd := g_t hd zc4
    refine v_tIn (1 : Int32) (tgt := 44) dX6_count_1 zc4 (by decide) (by decide) rfl (by decide) ?_
    refine v_aload_n dX6_count_44 rfl ?_
    refine v_get (v := .ref 21) dX6_count_45 fl_X6_29 rfl rfl ?_
    refine v_get (v := .int (u 21 3)) dX6_count_48 fl_X6_91 rfl rfl ?_
    obtain rfl := Option.some.inj hd
    exact v_iretE dX6_count_51 rfl rfl rfl rfl
  have hd := g_f hd zc4
  by_cases zc5 : a1 = (2 : Int32)
  · have hd := g_t hd zc5
    refine v_tIn (2 : Int32) (tgt := 52) dX6_count_1 zc5 (by decide) (by decide) rfl (by decide) ?_
    refine v_aload_n dX6_count_52 rfl ?_
    obtain ⟨zr6, zh7, hd⟩ := g_bind hd
    refine v_cI (dy := 0) (st := []) (st2 := [.int zr6]) dX6_count_53 mv_X6_260 (m_F_imagesKept u zh7) rfl rfl rfl rfl rfl (by decide) (by decide) rfl rfl ?_
    obtain rfl := Option.some.inj hd
    exact v_iretE dX6_count_56 rfl rfl rfl rfl
  have hd := g_f hd zc5
  by_cases zc8 : a1 = (3 : Int32)
  · have hd := g_t hd zc8
    refine v_tIn (3 : Int32) (tgt := 57) dX6_count_1 zc8 (by decide) (by decide) rfl (by decide) ?_
    refine v_aload_n dX6_count_57 rfl ?_
    refine v_get (v := .ref 1) dX6_count_58 fl_X6_10 rfl rfl ?_
    refine v_get (v := .ref 2) dX6_count_61 fl_X6_58 rfl rfl ?_
    refine v_get (v := .int (u 2 2)) dX6_count_64 fl_X6_68 rfl rfl ?_
    obtain rfl := Option.some.inj hd
    exact v_iretE dX6_count_67 rfl rfl rfl rfl
  have hd := g_f hd zc8
  by_cases zc9 : a1 = (4 : Int32)
  · have hd := g_t hd zc9
    refine v_tIn (4 : Int32) (tgt := 68) dX6_count_1 zc9 (by decide) (by decide) rfl (by decide) ?_
    refine v_aload_n dX6_count_68 rfl ?_
    refine v_get (v := .ref 46) dX6_count_69 fl_X6_42 rfl rfl ?_
    refine v_iconst dX6_count_72 ic_0 ?_
    by_cases zc10 : (0 : Int32) = (0 : Int32)
    · have hd := g_t hd zc10
      refine v_aald (r := 47) dX6_count_73 rfl (Or.inr rfl) (by rw [zc10]; exact gi_in (by decide)) (by rw [zc10]; rfl) ?_
      refine v_get (v := .int (u 47 1)) dX6_count_74 fl_X6_263 rfl rfl ?_
      refine v_if_eq (tgt := 92) dX6_count_77 (by decide) (fun zc11 => ?_) (fun zc11 => ?_)
      · have hd := g_t hd zc11
        refine v_bipush dX6_count_92 bp_m4 ?_
        obtain rfl := Option.some.inj hd
        exact v_iretE dX6_count_94 rfl rfl rfl rfl
      · have hd := g_f hd zc11
        refine v_aload_n dX6_count_80 rfl ?_
        refine v_get (v := .ref 46) dX6_count_81 fl_X6_42 rfl rfl ?_
        refine v_iconst dX6_count_84 ic_0 ?_
        by_cases zc12 : (0 : Int32) = (0 : Int32)
        · have hd := g_t hd zc12
          refine v_aald (r := 47) dX6_count_85 rfl (Or.inr rfl) (by rw [zc12]; exact gi_in (by decide)) (by rw [zc12]; rfl) ?_
          refine v_get (v := .int (u 47 3)) dX6_count_86 fl_X6_264 rfl rfl ?_
          refine v_goto (tgt := 94) dX6_count_89 (by decide) ?_
          obtain rfl := Option.some.inj hd
          exact v_iretE dX6_count_94 rfl rfl rfl rfl
        have hd := g_f hd zc12
        by_cases zc13 : (0 : Int32) = (1 : Int32)
        · have hd := g_t hd zc13
          refine v_aald (r := 49) dX6_count_85 rfl (Or.inr rfl) (by rw [zc13]; exact gi_in (by decide)) (by rw [zc13]; rfl) ?_
          refine v_get (v := .int (u 49 3)) dX6_count_86 fl_X6_264 rfl rfl ?_
          refine v_goto (tgt := 94) dX6_count_89 (by decide) ?_
          obtain rfl := Option.some.inj hd
          exact v_iretE dX6_count_94 rfl rfl rfl rfl
        have hd := g_f hd zc13
        by_cases zc14 : (0 : Int32) = (2 : Int32)
        · have hd := g_t hd zc14
          refine v_aald (r := 51) dX6_count_85 rfl (Or.inr rfl) (by rw [zc14]; exact gi_in (by decide)) (by rw [zc14]; rfl) ?_
          refine v_get (v := .int (u 51 3)) dX6_count_86 fl_X6_264 rfl rfl ?_
          refine v_goto (tgt := 94) dX6_count_89 (by decide) ?_
          obtain rfl := Option.some.inj hd
          exact v_iretE dX6_count_94 rfl rfl rfl rfl
        have hd := g_f hd zc14
        by_cases zc15 : (0 : Int32) = (3 : Int32)
        · have hd := g_t hd zc15
          refine v_aald (r := 53) dX6_count_85 rfl (Or.inr rfl) (by rw [zc15]; exact gi_in (by decide)) (by rw [zc15]; rfl) ?_
          refine v_get (v := .int (u 53 3)) dX6_count_86 fl_X6_264 rfl rfl ?_
          refine v_goto (tgt := 94) dX6_count_89 (by decide) ?_
          obtain rfl := Option.some.inj hd
          exact v_iretE dX6_count_94 rfl rfl rfl rfl
        have hd := g_f hd zc15
        cases hd
    have hd := g_f hd zc10
    by_cases zc16 : (0 : Int32) = (1 : Int32)
    · have hd := g_t hd zc16
      refine v_aald (r := 49) dX6_count_73 rfl (Or.inr rfl) (by rw [zc16]; exact gi_in (by decide)) (by rw [zc16]; rfl) ?_
      refine v_get (v := .int (u 49 1)) dX6_count_74 fl_X6_263 rfl rfl ?_
      refine v_if_eq (tgt := 92) dX6_count_77 (by decide) (fun zc17 => ?_) (fun zc17 => ?_)
      · have hd := g_t hd zc17
        refine v_bipush dX6_count_92 bp_m4 ?_
        obtain rfl := Option.some.inj hd
        exact v_iretE dX6_count_94 rfl rfl rfl rfl
      · have hd := g_f hd zc17
        refine v_aload_n dX6_count_80 rfl ?_
        refine v_get (v := .ref 46) dX6_count_81 fl_X6_42 rfl rfl ?_
        refine v_iconst dX6_count_84 ic_0 ?_
        by_cases zc18 : (0 : Int32) = (0 : Int32)
        · have hd := g_t hd zc18
          refine v_aald (r := 47) dX6_count_85 rfl (Or.inr rfl) (by rw [zc18]; exact gi_in (by decide)) (by rw [zc18]; rfl) ?_
          refine v_get (v := .int (u 47 3)) dX6_count_86 fl_X6_264 rfl rfl ?_
          refine v_goto (tgt := 94) dX6_count_89 (by decide) ?_
          obtain rfl := Option.some.inj hd
          exact v_iretE dX6_count_94 rfl rfl rfl rfl
        have hd := g_f hd zc18
        by_cases zc19 : (0 : Int32) = (1 : Int32)
        · have hd := g_t hd zc19
          refine v_aald (r := 49) dX6_count_85 rfl (Or.inr rfl) (by rw [zc19]; exact gi_in (by decide)) (by rw [zc19]; rfl) ?_
          refine v_get (v := .int (u 49 3)) dX6_count_86 fl_X6_264 rfl rfl ?_
          refine v_goto (tgt := 94) dX6_count_89 (by decide) ?_
          obtain rfl := Option.some.inj hd
          exact v_iretE dX6_count_94 rfl rfl rfl rfl
        have hd := g_f hd zc19
        by_cases zc20 : (0 : Int32) = (2 : Int32)
        · have hd := g_t hd zc20
          refine v_aald (r := 51) dX6_count_85 rfl (Or.inr rfl) (by rw [zc20]; exact gi_in (by decide)) (by rw [zc20]; rfl) ?_
          refine v_get (v := .int (u 51 3)) dX6_count_86 fl_X6_264 rfl rfl ?_
          refine v_goto (tgt := 94) dX6_count_89 (by decide) ?_
          obtain rfl := Option.some.inj hd
          exact v_iretE dX6_count_94 rfl rfl rfl rfl
        have hd := g_f hd zc20
        by_cases zc21 : (0 : Int32) = (3 : Int32)
        · have hd := g_t hd zc21
          refine v_aald (r := 53) dX6_count_85 rfl (Or.inr rfl) (by rw [zc21]; exact gi_in (by decide)) (by rw [zc21]; rfl) ?_
          refine v_get (v := .int (u 53 3)) dX6_count_86 fl_X6_264 rfl rfl ?_
          refine v_goto (tgt := 94) dX6_count_89 (by decide) ?_
          obtain rfl := Option.some.inj hd
          exact v_iretE dX6_count_94 rfl rfl rfl rfl
        have hd := g_f hd zc21
        cases hd
    have hd := g_f hd zc16
    by_cases zc22 : (0 : Int32) = (2 : Int32)
    · have hd := g_t hd zc22
      refine v_aald (r := 51) dX6_count_73 rfl (Or.inr rfl) (by rw [zc22]; exact gi_in (by decide)) (by rw [zc22]; rfl) ?_
      refine v_get (v := .int (u 51 1)) dX6_count_74 fl_X6_263 rfl rfl ?_
      refine v_if_eq (tgt := 92) dX6_count_77 (by decide) (fun zc23 => ?_) (fun zc23 => ?_)
      · have hd := g_t hd zc23
        refine v_bipush dX6_count_92 bp_m4 ?_
        obtain rfl := Option.some.inj hd
        exact v_iretE dX6_count_94 rfl rfl rfl rfl
      · have hd := g_f hd zc23
        refine v_aload_n dX6_count_80 rfl ?_
        refine v_get (v := .ref 46) dX6_count_81 fl_X6_42 rfl rfl ?_
        refine v_iconst dX6_count_84 ic_0 ?_
        by_cases zc24 : (0 : Int32) = (0 : Int32)
        · have hd := g_t hd zc24
          refine v_aald (r := 47) dX6_count_85 rfl (Or.inr rfl) (by rw [zc24]; exact gi_in (by decide)) (by rw [zc24]; rfl) ?_
          refine v_get (v := .int (u 47 3)) dX6_count_86 fl_X6_264 rfl rfl ?_
          refine v_goto (tgt := 94) dX6_count_89 (by decide) ?_
          obtain rfl := Option.some.inj hd
          exact v_iretE dX6_count_94 rfl rfl rfl rfl
        have hd := g_f hd zc24
        by_cases zc25 : (0 : Int32) = (1 : Int32)
        · have hd := g_t hd zc25
          refine v_aald (r := 49) dX6_count_85 rfl (Or.inr rfl) (by rw [zc25]; exact gi_in (by decide)) (by rw [zc25]; rfl) ?_
          refine v_get (v := .int (u 49 3)) dX6_count_86 fl_X6_264 rfl rfl ?_
          refine v_goto (tgt := 94) dX6_count_89 (by decide) ?_
          obtain rfl := Option.some.inj hd
          exact v_iretE dX6_count_94 rfl rfl rfl rfl
        have hd := g_f hd zc25
        by_cases zc26 : (0 : Int32) = (2 : Int32)
        · have hd := g_t hd zc26
          refine v_aald (r := 51) dX6_count_85 rfl (Or.inr rfl) (by rw [zc26]; exact gi_in (by decide)) (by rw [zc26]; rfl) ?_
          refine v_get (v := .int (u 51 3)) dX6_count_86 fl_X6_264 rfl rfl ?_
          refine v_goto (tgt := 94) dX6_count_89 (by decide) ?_
          obtain rfl := Option.some.inj hd
          exact v_iretE dX6_count_94 rfl rfl rfl rfl
        have hd := g_f hd zc26
        by_cases zc27 : (0 : Int32) = (3 : Int32)
        · have hd := g_t hd zc27
          refine v_aald (r := 53) dX6_count_85 rfl (Or.inr rfl) (by rw [zc27]; exact gi_in (by decide)) (by rw [zc27]; rfl) ?_
          refine v_get (v := .int (u 53 3)) dX6_count_86 fl_X6_264 rfl rfl ?_
          refine v_goto (tgt := 94) dX6_count_89 (by decide) ?_
          obtain rfl := Option.some.inj hd
          exact v_iretE dX6_count_94 rfl rfl rfl rfl
        have hd := g_f hd zc27
        cases hd
    have hd := g_f hd zc22
    by_cases zc28 : (0 : Int32) = (3 : Int32)
    · have hd := g_t hd zc28
      refine v_aald (r := 53) dX6_count_73 rfl (Or.inr rfl) (by rw [zc28]; exact gi_in (by decide)) (by rw [zc28]; rfl) ?_
      refine v_get (v := .int (u 53 1)) dX6_count_74 fl_X6_263 rfl rfl ?_
      refine v_if_eq (tgt := 92) dX6_count_77 (by decide) (fun zc29 => ?_) (fun zc29 => ?_)
      · have hd := g_t hd zc29
        refine v_bipush dX6_count_92 bp_m4 ?_
        obtain rfl := Option.some.inj hd
        exact v_iretE dX6_count_94 rfl rfl rfl rfl
      · have hd := g_f hd zc29
        refine v_aload_n dX6_count_80 rfl ?_
        refine v_get (v := .ref 46) dX6_count_81 fl_X6_42 rfl rfl ?_
        refine v_iconst dX6_count_84 ic_0 ?_
        by_cases zc30 : (0 : Int32) = (0 : Int32)
        · have hd := g_t hd zc30
          refine v_aald (r := 47) dX6_count_85 rfl (Or.inr rfl) (by rw [zc30]; exact gi_in (by decide)) (by rw [zc30]; rfl) ?_
          refine v_get (v := .int (u 47 3)) dX6_count_86 fl_X6_264 rfl rfl ?_
          refine v_goto (tgt := 94) dX6_count_89 (by decide) ?_
          obtain rfl := Option.some.inj hd
          exact v_iretE dX6_count_94 rfl rfl rfl rfl
        have hd := g_f hd zc30
        by_cases zc31 : (0 : Int32) = (1 : Int32)
        · have hd := g_t hd zc31
          refine v_aald (r := 49) dX6_count_85 rfl (Or.inr rfl) (by rw [zc31]; exact gi_in (by decide)) (by rw [zc31]; rfl) ?_
          refine v_get (v := .int (u 49 3)) dX6_count_86 fl_X6_264 rfl rfl ?_
          refine v_goto (tgt := 94) dX6_count_89 (by decide) ?_
          obtain rfl := Option.some.inj hd
          exact v_iretE dX6_count_94 rfl rfl rfl rfl
        have hd := g_f hd zc31
        by_cases zc32 : (0 : Int32) = (2 : Int32)
        · have hd := g_t hd zc32
          refine v_aald (r := 51) dX6_count_85 rfl (Or.inr rfl) (by rw [zc32]; exact gi_in (by decide)) (by rw [zc32]; rfl) ?_
          refine v_get (v := .int (u 51 3)) dX6_count_86 fl_X6_264 rfl rfl ?_
          refine v_goto (tgt := 94) dX6_count_89 (by decide) ?_
          obtain rfl := Option.some.inj hd
          exact v_iretE dX6_count_94 rfl rfl rfl rfl
        have hd := g_f hd zc32
        by_cases zc33 : (0 : Int32) = (3 : Int32)
        · have hd := g_t hd zc33
          refine v_aald (r := 53) dX6_count_85 rfl (Or.inr rfl) (by rw [zc33]; exact gi_in (by decide)) (by rw [zc33]; rfl) ?_
          refine v_get (v := .int (u 53 3)) dX6_count_86 fl_X6_264 rfl rfl ?_
          refine v_goto (tgt := 94) dX6_count_89 (by decide) ?_
          obtain rfl := Option.some.inj hd
          exact v_iretE dX6_count_94 rfl rfl rfl rfl
        have hd := g_f hd zc33
        cases hd
    have hd := g_f hd zc28
    cases hd
  have hd := g_f hd zc9
  refine v_tOut (tgt := 95) dX6_count_1 (by have q0 := lv_neT (a := 0) zc1 rfl; have q1 := lv_neT (a := 1) zc4 rfl; have q2 := lv_neT (a := 2) zc5 rfl; have q3 := lv_neT (a := 3) zc8 rfl; have q4 := lv_neT (a := 4) zc9 rfl; omega) (by decide) ?_
  refine v_iconst dX6_count_95 ic_m1 ?_
  obtain rfl := Option.some.inj hd
  exact v_iretE dX6_count_96 rfl rfl rfl rfl
theorem m_F_count (u : (Nat → Nat → Int32)) (a1 : Int32) {r : Int32} (hd : d_F_count u a1 = some r) : Mt yX6_count cX6_count 2 (some .int) (rm 1) [.ref 0, .int a1] (h_F u) (ab_eq (some (.int r)) (h_F u)) := Mt.of (by decide +kernel) (fun _ _ _ => trivial) (Nat.le_of_ble_eq_true rfl) (v_F_count u a1 hd)
