
theorem lw_gt {i Lx : Nat} (hi : i ≤ 330) (hL : Lx ≤ 320) (h : Lx < i + 5) : nI Lx - 5 < nI i := by
  have e : (nI Lx - 5).toInt = (Lx : Int) - 5 := by
    rw [show (5 : Int32) = nI 5 from rfl]
    exact pk_sub_toInt (by omega) (by omega)
  rw [Int32.lt_iff_toInt_lt, e, nI_toInt (by omega)]
  omega
theorem lw_ngt {i Lx : Nat} (hi : i ≤ 330) (hL : Lx ≤ 320) (h : ¬ nI Lx - 5 < nI i) : i + 5 ≤ Lx := by
  have e : (nI Lx - 5).toInt = (Lx : Int) - 5 := by
    rw [show (5 : Int32) = nI 5 from rfl]
    exact pk_sub_toInt (by omega) (by omega)
  rw [Int32.lt_iff_toInt_lt, e, nI_toInt (by omega)] at h
  omega
set_option maxRecDepth 100000 in
set_option maxHeartbeats 4000000 in
theorem law_loop {nm : String} {Lx : Nat} {xs : Nat → Int32} (hL : Lx ≤ 320) {Rl : (Nat → Nat → Int32) → (Nat → Nat → Int32) → Prop}
    (E_feed : ∀ (u v : Nat → Nat → Int32) (a1 : Int32), Rl u v → ∃ (r : Int32) (u2 : Nat → Nat → Int32) (v2 : Nat → Nat → Int32), d_F_feed u a1 = some (r, u2) ∧ d_M_feed v a1 = some (r, v2) ∧ Rl u2 v2)
    (E_end : ∀ (u v : Nat → Nat → Int32) (a1 : Int32), Rl u v → ∃ (r : Int32) (u2 : Nat → Nat → Int32) (v2 : Nat → Nat → Int32), d_F_end u a1 = some (r, u2) ∧ d_M_end v a1 = some (r, v2) ∧ Rl u2 v2)
    (E_text : ∀ (u v : Nat → Nat → Int32), Rl u v → ∃ (r : Int32) (u2 : Nat → Nat → Int32) (v2 : Nat → Nat → Int32), d_F_text u = some (r, u2) ∧ d_M_text v = some (r, v2) ∧ Rl u2 v2)
    (E_fault : ∀ (u v : Nat → Nat → Int32), Rl u v → ∃ (r : Int32), d_F_fault u = some r ∧ d_M_fault v = some r ∧ Rl u v)
    (E_rule : ∀ (u v : Nat → Nat → Int32) (a1 : Int32), Rl u v → ∃ (r : Int32) (v2 : Nat → Nat → Int32), d_F_rule u a1 = some r ∧ d_M_rule v a1 = some (r, v2) ∧ Rl u v2)
    (E_house : ∀ (u v : Nat → Nat → Int32) (a1 a2 : Int32), Rl u v → ∃ (r : Int32), d_F_house u a1 a2 = some r ∧ d_M_house v a1 a2 = some r ∧ Rl u v)
    (E_alter : ∀ (u v : Nat → Nat → Int32) (a1 a2 a3 : Int32), Rl u v → ∃ (r : Int32) (u2 : Nat → Nat → Int32) (v2 : Nat → Nat → Int32), d_F_alter u a1 a2 a3 = some (r, u2) ∧ d_M_alter v a1 a2 a3 = some (r, v2) ∧ Rl u2 v2)
    (E_set : ∀ (u v : Nat → Nat → Int32) (a1 a2 : Int32), Rl u v → ∃ (r : Int32) (u2 : Nat → Nat → Int32) (v2 : Nat → Nat → Int32), d_F_set u a1 a2 = some (r, u2) ∧ d_M_set v a1 a2 = some (r, v2) ∧ Rl u2 v2)
    (E_rain : ∀ (u v : Nat → Nat → Int32) (a1 a2 : Int32), Rl u v → (a2 = 0 ∨ a2 = 1) → ∃ (r : Int32) (u2 : Nat → Nat → Int32) (v2 : Nat → Nat → Int32), d_F_rain u a1 a2 = some (r, u2) ∧ d_M_rain v a1 a2 = some (r, v2) ∧ Rl u2 v2)
    (E_offer : ∀ (u v : Nat → Nat → Int32) (a1 a2 : Int32), Rl u v → ∃ (r : Int32) (u2 : Nat → Nat → Int32) (v2 : Nat → Nat → Int32), d_F_offer u a1 a2 = some (r, u2) ∧ d_M_offer v a1 a2 = some (r, v2) ∧ Rl u2 v2)
    (E_go : ∀ (u v : Nat → Nat → Int32) (a1 : Int32), Rl u v → ∃ (r : Int32) (u2 : Nat → Nat → Int32) (v2 : Nat → Nat → Int32), d_F_go u a1 = some (r, u2) ∧ d_M_go v a1 = some (r, v2) ∧ Rl u2 v2)
    (E_runs : ∀ (u v : Nat → Nat → Int32) (a1 a2 : Int32), Rl u v → ∃ (r : Int32) (u2 : Nat → Nat → Int32) (v2 : Nat → Nat → Int32), d_F_runs u a1 a2 = some (r, u2) ∧ d_M_runs v a1 a2 = some (r, v2) ∧ Rl u2 v2)
    (E_ahead : ∀ (u v : Nat → Nat → Int32) (a1 a2 : Int32), Rl u v → ∃ (r : Int32) (u2 : Nat → Nat → Int32) (v2 : Nat → Nat → Int32), d_F_ahead u a1 a2 = some (r, u2) ∧ d_M_ahead v a1 a2 = some (r, v2) ∧ Rl u2 v2)
    (E_bare : ∀ (u v : Nat → Nat → Int32) (a1 : Int32), Rl u v → ∃ (r : Int32) (u2 : Nat → Nat → Int32) (v2 : Nat → Nat → Int32), d_F_bare u a1 = some (r, u2) ∧ d_M_bare v a1 = some (r, v2) ∧ Rl u2 v2)
    (E_best : ∀ (u v : Nat → Nat → Int32) (a1 a2 : Int32), Rl u v → ∃ (r : Int32) (u2 : Nat → Nat → Int32) (v2 : Nat → Nat → Int32), d_F_best u a1 a2 = some (r, u2) ∧ d_M_best v a1 a2 = some (r, v2) ∧ Rl u2 v2)
    (E_change : ∀ (u v : Nat → Nat → Int32) (a1 a2 : Int32), Rl u v → ∃ (r : Int32) (u2 : Nat → Nat → Int32) (v2 : Nat → Nat → Int32), d_F_change u a1 a2 = some (r, u2) ∧ d_M_change v a1 a2 = some (r, v2) ∧ Rl u2 v2)
    (E_cooks : ∀ (u v : Nat → Nat → Int32) (a1 a2 : Int32), Rl u v → ∃ (r : Int32) (u2 : Nat → Nat → Int32) (v2 : Nat → Nat → Int32), d_F_cooks u a1 a2 = some (r, u2) ∧ d_M_cooks v a1 a2 = some (r, v2) ∧ Rl u2 v2)
    (E_appease : ∀ (u v : Nat → Nat → Int32) (a1 a2 : Int32), Rl u v → ∃ (r : Int32) (u2 : Nat → Nat → Int32) (v2 : Nat → Nat → Int32), d_F_appease u a1 a2 = some (r, u2) ∧ d_M_appease v a1 a2 = some (r, v2) ∧ Rl u2 v2)
    (E_pray : ∀ (u v : Nat → Nat → Int32) (a1 : Int32), Rl u v → ∃ (r : Int32) (u2 : Nat → Nat → Int32) (v2 : Nat → Nat → Int32), d_F_pray u a1 = some (r, u2) ∧ d_M_pray v a1 = some (r, v2) ∧ Rl u2 v2)
    (E_value : ∀ (u v : Nat → Nat → Int32) (a1 a2 : Int32), Rl u v → ∃ (r : Int32) (u2 : Nat → Nat → Int32) (v2 : Nat → Nat → Int32), d_F_value u a1 a2 = some (r, u2) ∧ d_M_value v a1 a2 = some (r, v2) ∧ Rl u2 v2)
    (E_share : ∀ (u v : Nat → Nat → Int32) (a1 a2 a3 : Int32), Rl u v → ∃ (r : Int64) (u2 : Nat → Nat → Int32) (v2 : Nat → Nat → Int32), d_F_share u a1 a2 a3 = some (r, u2) ∧ d_M_share v a1 a2 a3 = some (r, v2) ∧ Rl u2 v2)
    (E_luck : ∀ (u v : Nat → Nat → Int32) (w : Nat → Int64) (a1 a2 a3 : Int32), Rl u v → ∃ (r : Int64) (u2 : Nat → Nat → Int32) (v2 : Nat → Nat → Int32) (w2 : Nat → Int64), d_F_luck u a1 a2 a3 = some (r, u2) ∧ d_M_luck v w a1 a2 a3 = some (r, v2, w2) ∧ Rl u2 v2)
    (E_mean : ∀ (u v : Nat → Nat → Int32) (w : Nat → Int64) (a1 a2 a3 : Int32), Rl u v → ∃ (r : Int64) (u2 : Nat → Nat → Int32) (v2 : Nat → Nat → Int32) (w2 : Nat → Int64), d_F_mean u a1 a2 a3 = some (r, u2) ∧ d_M_mean v w a1 a2 a3 = some (r, v2, w2) ∧ Rl u2 v2)
    (E_see : ∀ (u v : Nat → Nat → Int32) (a1 a2 a3 : Int32), Rl u v → ∃ (r : Int32) (u2 : Nat → Nat → Int32) (v2 : Nat → Nat → Int32), d_F_see u a1 a2 a3 = some (r, u2) ∧ d_M_see v a1 a2 a3 = some (r, v2) ∧ Rl u2 v2)
    (E_forget : ∀ (u v : Nat → Nat → Int32) (a1 : Int32), Rl u v → ∃ (r : Int32) (u2 : Nat → Nat → Int32) (v2 : Nat → Nat → Int32), d_F_forget u a1 = some (r, u2) ∧ d_M_forget v a1 = some (r, v2) ∧ Rl u2 v2)
    (E_fits : ∀ (u v : Nat → Nat → Int32) (a1 : Int32), Rl u v → ∃ (r : Int32) (u2 : Nat → Nat → Int32) (v2 : Nat → Nat → Int32), d_F_fits u a1 = some (r, u2) ∧ d_M_fits v a1 = some (r, v2) ∧ Rl u2 v2)
    (E_look : ∀ (u v : Nat → Nat → Int32) (a1 : Int32), Rl u v → ∃ (r : Int32) (u2 : Nat → Nat → Int32) (v2 : Nat → Nat → Int32), d_F_look u a1 = some (r, u2) ∧ d_M_look v a1 = some (r, v2) ∧ Rl u2 v2)
    (E_drift : ∀ (u v : Nat → Nat → Int32) (a1 a2 a3 : Int32), Rl u v → ∃ (r : Int32) (u2 : Nat → Nat → Int32) (v2 : Nat → Nat → Int32), d_F_drift u a1 a2 a3 = some (r, u2) ∧ d_M_drift v a1 a2 a3 = some (r, v2) ∧ Rl u2 v2)
    (E_keep : ∀ (u v : Nat → Nat → Int32) (a1 : Int32), Rl u v → ∃ (r : Int32) (u2 : Nat → Nat → Int32) (v2 : Nat → Nat → Int32), d_F_keep u a1 = some (r, u2) ∧ d_M_keep v a1 = some (r, v2) ∧ Rl u2 v2)
    (E_back : ∀ (u v : Nat → Nat → Int32) (a1 : Int32), Rl u v → ∃ (r : Int32) (u2 : Nat → Nat → Int32) (v2 : Nat → Nat → Int32), d_F_back u a1 = some (r, u2) ∧ d_M_back v a1 = some (r, v2) ∧ Rl u2 v2)
    (E_sheet : ∀ (u v : Nat → Nat → Int32) (a1 a2 a3 : Int32), Rl u v → ∃ (r : Int32) (u2 : Nat → Nat → Int32) (v2 : Nat → Nat → Int32), d_F_sheet u a1 a2 a3 = some (r, u2) ∧ d_M_sheet v a1 a2 a3 = some (r, v2) ∧ Rl u2 v2)
    (E_lay : ∀ (u v : Nat → Nat → Int32) (a1 a2 a3 : Int32), Rl u v → ∃ (r : Int32) (u2 : Nat → Nat → Int32) (v2 : Nat → Nat → Int32), d_F_lay u a1 a2 a3 = some (r, u2) ∧ d_M_lay v a1 a2 a3 = some (r, v2) ∧ Rl u2 v2)
    (E_read : ∀ (u v : Nat → Nat → Int32) (a1 a2 a3 a4 : Int32), Rl u v → ∃ (r : Int32) (u2 : Nat → Nat → Int32) (v2 : Nat → Nat → Int32), d_F_read u a1 a2 a3 a4 = some (r, u2) ∧ d_M_read v a1 a2 a3 a4 = some (r, v2) ∧ Rl u2 v2)
    (E_torn : ∀ (u v : Nat → Nat → Int32), Rl u v → ∃ (r : Int32), d_F_torn u = some r ∧ d_M_torn v = some r ∧ Rl u v)
    (E_count : ∀ (u v : Nat → Nat → Int32) (a1 : Int32), Rl u v → ∃ (r : Int32) (v2 : Nat → Nat → Int32), d_F_count u a1 = some r ∧ d_M_count v a1 = some (r, v2) ∧ Rl u v2) :
    ∀ (f i : Nat) (u v : Nat → Nat → Int32) (w : Nat → Int64), i ≤ 330 → Lx < i + 5 * f → Rl u v → Vd RL nm cL_law 4 (some .boolean) room_1 (Q_law Lx xs) 600000 7302250 70 10812 18 [(0, .retAddr 16), (1, .ref 0), (2, .ref 57), (3, .int (nI i))] [] (h_L u v w) := by
  intro f
  induction f with
  | zero =>
    intro i u v w hi hf hR
    refine v_iload_n dL_law_18 rfl ?_
    refine v_xload dL_law_19 rfl ?_
    refine v_xlen dL_law_20 ?_
    refine v_iconst dL_law_21 ic_5 ?_
    refine v_isub dL_law_22 ?_
    refine v_icmp_gt (tgt := 1288) dL_law_23 (by decide) (fun _ => ?_) (fun c => absurd (lw_gt (by omega) (by omega) (by omega)) c)
    refine v_iconst dL_law_1288 ic_1 ?_
    exact v_iret dL_law_1289 rfl rfl (by decide) (by decide) rfl
  | succ f ih =>
    intro i u v w hi hf hR
    refine v_iload_n dL_law_18 rfl ?_
    refine v_xload dL_law_19 rfl ?_
    refine v_xlen dL_law_20 ?_
    refine v_iconst dL_law_21 ic_5 ?_
    refine v_isub dL_law_22 ?_
    refine v_icmp_gt (tgt := 1288) dL_law_23 (by decide) (fun _ => ?_) (fun c => ?_)
    · refine v_iconst dL_law_1288 ic_1 ?_
      exact v_iret dL_law_1289 rfl rfl (by decide) (by decide) rfl
    · have hlt : i + 5 ≤ Lx := lw_ngt (by omega) (by omega) c
      have hx0 : vp_in (nI i) Lx := vp_in_nI (by omega) (by omega)
      have hx1 : vp_in (nI i + (1 : Int32)) Lx := by rw [show (1 : Int32) = nI 1 from rfl, nI_add]; exact vp_in_nI (by omega) (by omega)
      have hx2 : vp_in (nI i + (2 : Int32)) Lx := by rw [show (2 : Int32) = nI 2 from rfl, nI_add]; exact vp_in_nI (by omega) (by omega)
      have hx3 : vp_in (nI i + (3 : Int32)) Lx := by rw [show (3 : Int32) = nI 3 from rfl, nI_add]; exact vp_in_nI (by omega) (by omega)
      have hx4 : vp_in (nI i + (4 : Int32)) Lx := by rw [show (4 : Int32) = nI 4 from rfl, nI_add]; exact vp_in_nI (by omega) (by omega)
      have kk : ∀ (u v : Nat → Nat → Int32) (w : Nat → Int64), Rl u v → Vd RL nm cL_law 4 (some .boolean) room_1 (Q_law Lx xs) 600000 7302250 70 10812 1282 [(0, .retAddr 16), (1, .ref 0), (2, .ref 57), (3, .int (nI i))] [] (h_L u v w) := by
        intro u v w hR
        refine v_iinc (v := nI (i + 5)) (L2 := [(3, .int (nI (i + 5))), (0, .retAddr 16), (1, .ref 0), (2, .ref 57)]) dL_law_1282 rfl (by rw [ic_5, show (5 : Int32) = nI 5 from rfl, nI_add]) (Nat.le_of_ble_eq_true rfl) rfl ?_
        refine v_goto (tgt := 18) dL_law_1285 (by decide) ?_
        refine v_loc [1, 2, 3, 0] rfl ?_
        exact ih (i + 5) u v w (by omega) (by omega) hR
      refine v_xload dL_law_26 rfl ?_
      refine v_iload_n dL_law_27 rfl ?_
      refine v_xld dL_law_28 hx0 ?_
      refine v_bipush dL_law_29 bp_63 ?_
      refine v_iand dL_law_31 ?_
      refine v_topi (fun x ex => ?_)
      by_cases c0 : x = (0 : Int32)
      · refine v_tIn (0 : Int32) (tgt := 188) dL_law_32 c0 (by decide) (by decide) rfl (by decide) ?_
        exact lc_feed hx1 hx2 hx3 hx4 E_feed u v w hR kk
      by_cases c1 : x = (1 : Int32)
      · refine v_tIn (1 : Int32) (tgt := 211) dL_law_32 c1 (by decide) (by decide) rfl (by decide) ?_
        exact lc_end hx1 hx2 hx3 hx4 E_end u v w hR kk
      by_cases c2 : x = (2 : Int32)
      · refine v_tIn (2 : Int32) (tgt := 234) dL_law_32 c2 (by decide) (by decide) rfl (by decide) ?_
        exact lc_text hx1 hx2 hx3 hx4 E_text u v w hR kk
      by_cases c3 : x = (3 : Int32)
      · refine v_tIn (3 : Int32) (tgt := 247) dL_law_32 c3 (by decide) (by decide) rfl (by decide) ?_
        exact lc_fault hx1 hx2 hx3 hx4 E_fault u v w hR kk
      by_cases c4 : x = (4 : Int32)
      · refine v_tIn (4 : Int32) (tgt := 260) dL_law_32 c4 (by decide) (by decide) rfl (by decide) ?_
        exact lc_rule hx1 hx2 hx3 hx4 E_rule u v w hR kk
      by_cases c5 : x = (5 : Int32)
      · refine v_tIn (5 : Int32) (tgt := 283) dL_law_32 c5 (by decide) (by decide) rfl (by decide) ?_
        exact lc_house hx1 hx2 hx3 hx4 E_house u v w hR kk
      by_cases c6 : x = (6 : Int32)
      · refine v_tIn (6 : Int32) (tgt := 316) dL_law_32 c6 (by decide) (by decide) rfl (by decide) ?_
        exact lc_alter hx1 hx2 hx3 hx4 E_alter u v w hR kk
      by_cases c7 : x = (7 : Int32)
      · refine v_tIn (7 : Int32) (tgt := 359) dL_law_32 c7 (by decide) (by decide) rfl (by decide) ?_
        exact lc_set hx1 hx2 hx3 hx4 E_set u v w hR kk
      by_cases c8 : x = (8 : Int32)
      · refine v_tIn (8 : Int32) (tgt := 392) dL_law_32 c8 (by decide) (by decide) rfl (by decide) ?_
        exact lc_rain hx1 hx2 hx3 hx4 E_rain u v w hR kk
      by_cases c9 : x = (9 : Int32)
      · refine v_tIn (9 : Int32) (tgt := 441) dL_law_32 c9 (by decide) (by decide) rfl (by decide) ?_
        exact lc_offer hx1 hx2 hx3 hx4 E_offer u v w hR kk
      by_cases c10 : x = (10 : Int32)
      · refine v_tIn (10 : Int32) (tgt := 474) dL_law_32 c10 (by decide) (by decide) rfl (by decide) ?_
        exact lc_go hx1 hx2 hx3 hx4 E_go u v w hR kk
      by_cases c11 : x = (11 : Int32)
      · refine v_tIn (11 : Int32) (tgt := 497) dL_law_32 c11 (by decide) (by decide) rfl (by decide) ?_
        exact lc_runs hx1 hx2 hx3 hx4 E_runs u v w hR kk
      by_cases c12 : x = (12 : Int32)
      · refine v_tIn (12 : Int32) (tgt := 530) dL_law_32 c12 (by decide) (by decide) rfl (by decide) ?_
        exact lc_ahead hx1 hx2 hx3 hx4 E_ahead u v w hR kk
      by_cases c13 : x = (13 : Int32)
      · refine v_tIn (13 : Int32) (tgt := 563) dL_law_32 c13 (by decide) (by decide) rfl (by decide) ?_
        exact lc_bare hx1 hx2 hx3 hx4 E_bare u v w hR kk
      by_cases c14 : x = (14 : Int32)
      · refine v_tIn (14 : Int32) (tgt := 586) dL_law_32 c14 (by decide) (by decide) rfl (by decide) ?_
        exact lc_best hx1 hx2 hx3 hx4 E_best u v w hR kk
      by_cases c15 : x = (15 : Int32)
      · refine v_tIn (15 : Int32) (tgt := 619) dL_law_32 c15 (by decide) (by decide) rfl (by decide) ?_
        exact lc_change hx1 hx2 hx3 hx4 E_change u v w hR kk
      by_cases c16 : x = (16 : Int32)
      · refine v_tIn (16 : Int32) (tgt := 652) dL_law_32 c16 (by decide) (by decide) rfl (by decide) ?_
        exact lc_cooks hx1 hx2 hx3 hx4 E_cooks u v w hR kk
      by_cases c17 : x = (17 : Int32)
      · refine v_tIn (17 : Int32) (tgt := 685) dL_law_32 c17 (by decide) (by decide) rfl (by decide) ?_
        exact lc_appease hx1 hx2 hx3 hx4 E_appease u v w hR kk
      by_cases c18 : x = (18 : Int32)
      · refine v_tIn (18 : Int32) (tgt := 718) dL_law_32 c18 (by decide) (by decide) rfl (by decide) ?_
        exact lc_pray hx1 hx2 hx3 hx4 E_pray u v w hR kk
      by_cases c19 : x = (19 : Int32)
      · refine v_tIn (19 : Int32) (tgt := 741) dL_law_32 c19 (by decide) (by decide) rfl (by decide) ?_
        exact lc_value hx1 hx2 hx3 hx4 E_value u v w hR kk
      by_cases c20 : x = (20 : Int32)
      · refine v_tIn (20 : Int32) (tgt := 774) dL_law_32 c20 (by decide) (by decide) rfl (by decide) ?_
        exact lc_share hx1 hx2 hx3 hx4 E_share u v w hR kk
      by_cases c21 : x = (21 : Int32)
      · refine v_tIn (21 : Int32) (tgt := 818) dL_law_32 c21 (by decide) (by decide) rfl (by decide) ?_
        exact lc_luck hx1 hx2 hx3 hx4 E_luck u v w hR kk
      by_cases c22 : x = (22 : Int32)
      · refine v_tIn (22 : Int32) (tgt := 862) dL_law_32 c22 (by decide) (by decide) rfl (by decide) ?_
        exact lc_mean hx1 hx2 hx3 hx4 E_mean u v w hR kk
      by_cases c23 : x = (23 : Int32)
      · refine v_tIn (23 : Int32) (tgt := 906) dL_law_32 c23 (by decide) (by decide) rfl (by decide) ?_
        exact lc_see hx1 hx2 hx3 hx4 E_see u v w hR kk
      by_cases c24 : x = (24 : Int32)
      · refine v_tIn (24 : Int32) (tgt := 949) dL_law_32 c24 (by decide) (by decide) rfl (by decide) ?_
        exact lc_forget hx1 hx2 hx3 hx4 E_forget u v w hR kk
      by_cases c25 : x = (25 : Int32)
      · refine v_tIn (25 : Int32) (tgt := 972) dL_law_32 c25 (by decide) (by decide) rfl (by decide) ?_
        exact lc_fits hx1 hx2 hx3 hx4 E_fits u v w hR kk
      by_cases c26 : x = (26 : Int32)
      · refine v_tIn (26 : Int32) (tgt := 995) dL_law_32 c26 (by decide) (by decide) rfl (by decide) ?_
        exact lc_look hx1 hx2 hx3 hx4 E_look u v w hR kk
      by_cases c27 : x = (27 : Int32)
      · refine v_tIn (27 : Int32) (tgt := 1018) dL_law_32 c27 (by decide) (by decide) rfl (by decide) ?_
        exact lc_drift hx1 hx2 hx3 hx4 E_drift u v w hR kk
      by_cases c28 : x = (28 : Int32)
      · refine v_tIn (28 : Int32) (tgt := 1061) dL_law_32 c28 (by decide) (by decide) rfl (by decide) ?_
        exact lc_keep hx1 hx2 hx3 hx4 E_keep u v w hR kk
      by_cases c29 : x = (29 : Int32)
      · refine v_tIn (29 : Int32) (tgt := 1084) dL_law_32 c29 (by decide) (by decide) rfl (by decide) ?_
        exact lc_back hx1 hx2 hx3 hx4 E_back u v w hR kk
      by_cases c30 : x = (30 : Int32)
      · refine v_tIn (30 : Int32) (tgt := 1107) dL_law_32 c30 (by decide) (by decide) rfl (by decide) ?_
        exact lc_sheet hx1 hx2 hx3 hx4 E_sheet u v w hR kk
      by_cases c31 : x = (31 : Int32)
      · refine v_tIn (31 : Int32) (tgt := 1150) dL_law_32 c31 (by decide) (by decide) rfl (by decide) ?_
        exact lc_lay hx1 hx2 hx3 hx4 E_lay u v w hR kk
      by_cases c32 : x = (32 : Int32)
      · refine v_tIn (32 : Int32) (tgt := 1193) dL_law_32 c32 (by decide) (by decide) rfl (by decide) ?_
        exact lc_read hx1 hx2 hx3 hx4 E_read u v w hR kk
      by_cases c33 : x = (33 : Int32)
      · refine v_tIn (33 : Int32) (tgt := 1246) dL_law_32 c33 (by decide) (by decide) rfl (by decide) ?_
        exact lc_torn hx1 hx2 hx3 hx4 E_torn u v w hR kk
      by_cases c34 : x = (34 : Int32)
      · refine v_tIn (34 : Int32) (tgt := 1259) dL_law_32 c34 (by decide) (by decide) rfl (by decide) ?_
        exact lc_count hx1 hx2 hx3 hx4 E_count u v w hR kk
      refine v_tOut (tgt := 1282) dL_law_32 (by have q0 := lv_neT (a := 0) c0 rfl; have q1 := lv_neT (a := 1) c1 rfl; have q2 := lv_neT (a := 2) c2 rfl; have q3 := lv_neT (a := 3) c3 rfl; have q4 := lv_neT (a := 4) c4 rfl; have q5 := lv_neT (a := 5) c5 rfl; have q6 := lv_neT (a := 6) c6 rfl; have q7 := lv_neT (a := 7) c7 rfl; have q8 := lv_neT (a := 8) c8 rfl; have q9 := lv_neT (a := 9) c9 rfl; have q10 := lv_neT (a := 10) c10 rfl; have q11 := lv_neT (a := 11) c11 rfl; have q12 := lv_neT (a := 12) c12 rfl; have q13 := lv_neT (a := 13) c13 rfl; have q14 := lv_neT (a := 14) c14 rfl; have q15 := lv_neT (a := 15) c15 rfl; have q16 := lv_neT (a := 16) c16 rfl; have q17 := lv_neT (a := 17) c17 rfl; have q18 := lv_neT (a := 18) c18 rfl; have q19 := lv_neT (a := 19) c19 rfl; have q20 := lv_neT (a := 20) c20 rfl; have q21 := lv_neT (a := 21) c21 rfl; have q22 := lv_neT (a := 22) c22 rfl; have q23 := lv_neT (a := 23) c23 rfl; have q24 := lv_neT (a := 24) c24 rfl; have q25 := lv_neT (a := 25) c25 rfl; have q26 := lv_neT (a := 26) c26 rfl; have q27 := lv_neT (a := 27) c27 rfl; have q28 := lv_neT (a := 28) c28 rfl; have q29 := lv_neT (a := 29) c29 rfl; have q30 := lv_neT (a := 30) c30 rfl; have q31 := lv_neT (a := 31) c31 rfl; have q32 := lv_neT (a := 32) c32 rfl; have q33 := lv_neT (a := 33) c33 rfl; have q34 := lv_neT (a := 34) c34 rfl; omega) (by decide) ?_
      exact kk u v w hR
