def ui_F : Nat → Nat → Int32 := (pw (pw (pw (pw (pw (fun _ _ => 0) 4 6 3) 11 6 3) 16 6 3) 27 6 3) 37 6 3)
set_option maxRecDepth 100000 in
theorem hi_F : h_init.map (rc (fun i => ([] : ab_H).length + i)) = h_F ui_F := rfl
set_option maxRecDepth 100000 in
set_option maxHeartbeats 4000000 in
theorem law_entry {nm : String} {Lx : Nat} {xs : Nat → Int32} (hL : Lx ≤ 320) {Rl : (Nat → Nat → Int32) → (Nat → Nat → Int32) → Prop}
    (E_feed : ∀ (u v : Nat → Nat → Int32) (a1 : Int32), Rl u v → ∃ (r : Int32) (u2 : Nat → Nat → Int32) (v2 : Nat → Nat → Int32), d_F_feed u a1 = some (r, u2) ∧ d_M_feed v a1 = some (r, v2) ∧ Rl u2 v2)
    (E_end : ∀ (u v : Nat → Nat → Int32) (a1 : Int32), Rl u v → ∃ (r : Int32) (u2 : Nat → Nat → Int32) (v2 : Nat → Nat → Int32), d_F_end u a1 = some (r, u2) ∧ d_M_end v a1 = some (r, v2) ∧ Rl u2 v2)
    (E_text : ∀ (u v : Nat → Nat → Int32), Rl u v → ∃ (r : Int32) (u2 : Nat → Nat → Int32) (v2 : Nat → Nat → Int32), d_F_text u = some (r, u2) ∧ d_M_text v = some (r, v2) ∧ Rl u2 v2)
    (E_fault : ∀ (u v : Nat → Nat → Int32), Rl u v → ∃ (r : Int32), d_F_fault u = some r ∧ d_M_fault v = some r ∧ Rl u v)
    (E_rule : ∀ (u v : Nat → Nat → Int32) (a1 : Int32), Rl u v → ∃ (r : Int32) (v2 : Nat → Nat → Int32), d_F_rule u a1 = some r ∧ d_M_rule v a1 = some (r, v2) ∧ Rl u v2)
    (E_house : ∀ (u v : Nat → Nat → Int32) (a1 a2 : Int32), Rl u v → ∃ (r : Int32), d_F_house u a1 a2 = some r ∧ d_M_house v a1 a2 = some r ∧ Rl u v)
    (E_alter : ∀ (u v : Nat → Nat → Int32) (a1 a2 a3 : Int32), Rl u v → ∃ (r : Int32) (u2 : Nat → Nat → Int32) (v2 : Nat → Nat → Int32), d_F_alter u a1 a2 a3 = some (r, u2) ∧ d_M_alter v a1 a2 a3 = some (r, v2) ∧ Rl u2 v2)
    (E_set : ∀ (u v : Nat → Nat → Int32) (a1 a2 : Int32), Rl u v → ∃ (r : Int32) (u2 : Nat → Nat → Int32) (v2 : Nat → Nat → Int32), d_F_set u a1 a2 = some (r, u2) ∧ d_M_set v a1 a2 = some (r, v2) ∧ Rl u2 v2)
    (E_rain : ∀ (u v : Nat → Nat → Int32) (a1 a2 : Int32), Rl u v → (a2 = 0 ∨ a2 = 1) → ∃ (r : Int32) (u2 : Nat → Nat → Int32) (v2 : Nat → Nat → Int32), d_F_rain u a1 a2 = some (r, u2) ∧ d_M_rain v a1 a2 = some (r, v2) ∧ Rl u2 v2)
    (E_offer : ∀ (u v : Nat → Nat → Int32) (a1 a2 : Int32), Rl u v → ∃ (r : Int32) (u2 : Nat → Nat → Int32) (v2 : Nat → Nat → Int32), d_F_offer u a1 a2 = some (r, u2) ∧ d_M_offer v a1 a2 = some (r, v2) ∧ Rl u2 v2)
    (E_go : ∀ (u v : Nat → Nat → Int32) (a1 : Int32), Rl u v → ∃ (r : Int32) (u2 : Nat → Nat → Int32) (v2 : Nat → Nat → Int32), d_F_go u a1 = some (r, u2) ∧ d_M_go v a1 = some (r, v2) ∧ Rl u2 v2)
    (E_runs : ∀ (u v : Nat → Nat → Int32) (a1 a2 : Int32), Rl u v → ∃ (r : Int32) (u2 : Nat → Nat → Int32) (v2 : Nat → Nat → Int32), d_F_runs u a1 a2 = some (r, u2) ∧ d_M_runs v a1 a2 = some (r, v2) ∧ Rl u2 v2)
    (E_ahead : ∀ (u v : Nat → Nat → Int32) (a1 a2 : Int32), Rl u v → ∃ (r : Int32) (u2 : Nat → Nat → Int32) (v2 : Nat → Nat → Int32), d_F_ahead u a1 a2 = some (r, u2) ∧ d_M_ahead v a1 a2 = some (r, v2) ∧ Rl u2 v2)
    (E_bare : ∀ (u v : Nat → Nat → Int32) (a1 : Int32), Rl u v → ∃ (r : Int32) (u2 : Nat → Nat → Int32) (v2 : Nat → Nat → Int32), d_F_bare u a1 = some (r, u2) ∧ d_M_bare v a1 = some (r, v2) ∧ Rl u2 v2)
    (E_best : ∀ (u v : Nat → Nat → Int32) (a1 a2 : Int32), Rl u v → ∃ (r : Int32) (u2 : Nat → Nat → Int32) (v2 : Nat → Nat → Int32), d_F_best u a1 a2 = some (r, u2) ∧ d_M_best v a1 a2 = some (r, v2) ∧ Rl u2 v2)
    (E_change : ∀ (u v : Nat → Nat → Int32) (a1 a2 : Int32), Rl u v → ∃ (r : Int32) (u2 : Nat → Nat → Int32) (v2 : Nat → Nat → Int32), d_F_change u a1 a2 = some (r, u2) ∧ d_M_change v a1 a2 = some (r, v2) ∧ Rl u2 v2)
    (E_cooks : ∀ (u v : Nat → Nat → Int32) (a1 a2 : Int32), Rl u v → ∃ (r : Int32) (u2 : Nat → Nat → Int32) (v2 : Nat → Nat → Int32), d_F_cooks u a1 a2 = some (r, u2) ∧ d_M_cooks v a1 a2 = some (r, v2) ∧ Rl u2 v2)
    (E_appease : ∀ (u v : Nat → Nat → Int32) (a1 a2 : Int32), Rl u v → ∃ (r : Int32) (u2 : Nat → Nat → Int32) (v2 : Nat → Nat → Int32), d_F_appease u a1 a2 = some (r, u2) ∧ d_M_appease v a1 a2 = some (r, v2) ∧ Rl u2 v2)
    (E_pray : ∀ (u v : Nat → Nat → Int32) (a1 : Int32), Rl u v → ∃ (r : Int32) (u2 : Nat → Nat → Int32) (v2 : Nat → Nat → Int32), d_F_pray u a1 = some (r, u2) ∧ d_M_pray v a1 = some (r, v2) ∧ Rl u2 v2)
    (E_value : ∀ (u v : Nat → Nat → Int32) (a1 a2 : Int32), Rl u v → ∃ (r : Int32) (u2 : Nat → Nat → Int32) (v2 : Nat → Nat → Int32), d_F_value u a1 a2 = some (r, u2) ∧ d_M_value v a1 a2 = some (r, v2) ∧ Rl u2 v2)
    (E_share : ∀ (u v : Nat → Nat → Int32) (a1 a2 a3 : Int32), Rl u v → ∃ (r : Int64) (u2 : Nat → Nat → Int32) (v2 : Nat → Nat → Int32), d_F_share u a1 a2 a3 = some (r, u2) ∧ d_M_share v a1 a2 a3 = some (r, v2) ∧ Rl u2 v2)
    (E_luck : ∀ (u v : Nat → Nat → Int32) (w : Nat → Int64) (a1 a2 a3 : Int32), Rl u v → ∃ (r : Int64) (u2 : Nat → Nat → Int32) (v2 : Nat → Nat → Int32) (w2 : Nat → Int64), d_F_luck u a1 a2 a3 = some (r, u2) ∧ d_M_luck v w a1 a2 a3 = some (r, v2, w2) ∧ Rl u2 v2)
    (E_mean : ∀ (u v : Nat → Nat → Int32) (w : Nat → Int64) (a1 a2 a3 : Int32), Rl u v → ∃ (r : Int64) (u2 : Nat → Nat → Int32) (v2 : Nat → Nat → Int32) (w2 : Nat → Int64), d_F_mean u a1 a2 a3 = some (r, u2) ∧ d_M_mean v w a1 a2 a3 = some (r, v2, w2) ∧ Rl u2 v2)
    (E_see : ∀ (u v : Nat → Nat → Int32) (a1 a2 a3 : Int32), Rl u v → ∃ (r : Int32) (u2 : Nat → Nat → Int32) (v2 : Nat → Nat → Int32), d_F_see u a1 a2 a3 = some (r, u2) ∧ d_M_see v a1 a2 a3 = some (r, v2) ∧ Rl u2 v2)
    (E_forget : ∀ (u v : Nat → Nat → Int32) (a1 : Int32), Rl u v → ∃ (r : Int32) (u2 : Nat → Nat → Int32) (v2 : Nat → Nat → Int32), d_F_forget u a1 = some (r, u2) ∧ d_M_forget v a1 = some (r, v2) ∧ Rl u2 v2)
    (E_fits : ∀ (u v : Nat → Nat → Int32) (a1 : Int32), Rl u v → ∃ (r : Int32) (u2 : Nat → Nat → Int32) (v2 : Nat → Nat → Int32), d_F_fits u a1 = some (r, u2) ∧ d_M_fits v a1 = some (r, v2) ∧ Rl u2 v2)
    (E_look : ∀ (u v : Nat → Nat → Int32) (a1 : Int32), Rl u v → ∃ (r : Int32) (u2 : Nat → Nat → Int32) (v2 : Nat → Nat → Int32), d_F_look u a1 = some (r, u2) ∧ d_M_look v a1 = some (r, v2) ∧ Rl u2 v2)
    (E_drift : ∀ (u v : Nat → Nat → Int32) (a1 a2 a3 : Int32), Rl u v → ∃ (r : Int32) (u2 : Nat → Nat → Int32) (v2 : Nat → Nat → Int32), d_F_drift u a1 a2 a3 = some (r, u2) ∧ d_M_drift v a1 a2 a3 = some (r, v2) ∧ Rl u2 v2)
    (E_keep : ∀ (u v : Nat → Nat → Int32) (a1 : Int32), Rl u v → ∃ (r : Int32) (u2 : Nat → Nat → Int32) (v2 : Nat → Nat → Int32), d_F_keep u a1 = some (r, u2) ∧ d_M_keep v a1 = some (r, v2) ∧ Rl u2 v2)
    (E_back : ∀ (u v : Nat → Nat → Int32) (a1 : Int32), Rl u v → ∃ (r : Int32) (u2 : Nat → Nat → Int32) (v2 : Nat → Nat → Int32), d_F_back u a1 = some (r, u2) ∧ d_M_back v a1 = some (r, v2) ∧ Rl u2 v2)
    (E_sheet : ∀ (u v : Nat → Nat → Int32) (a1 a2 a3 : Int32), Rl u v → ∃ (r : Int32) (u2 : Nat → Nat → Int32) (v2 : Nat → Nat → Int32), d_F_sheet u a1 a2 a3 = some (r, u2) ∧ d_M_sheet v a1 a2 a3 = some (r, v2) ∧ Rl u2 v2)
    (E_lay : ∀ (u v : Nat → Nat → Int32) (a1 a2 a3 : Int32), Rl u v → ∃ (r : Int32) (u2 : Nat → Nat → Int32) (v2 : Nat → Nat → Int32), d_F_lay u a1 a2 a3 = some (r, u2) ∧ d_M_lay v a1 a2 a3 = some (r, v2) ∧ Rl u2 v2)
    (E_read : ∀ (u v : Nat → Nat → Int32) (a1 a2 a3 a4 : Int32), Rl u v → ∃ (r : Int32) (u2 : Nat → Nat → Int32) (v2 : Nat → Nat → Int32), d_F_read u a1 a2 a3 a4 = some (r, u2) ∧ d_M_read v a1 a2 a3 a4 = some (r, v2) ∧ Rl u2 v2)
    (E_torn : ∀ (u v : Nat → Nat → Int32), Rl u v → ∃ (r : Int32), d_F_torn u = some r ∧ d_M_torn v = some r ∧ Rl u v)
    (E_count : ∀ (u v : Nat → Nat → Int32) (a1 : Int32), Rl u v → ∃ (r : Int32) (v2 : Nat → Nat → Int32), d_F_count u a1 = some r ∧ d_M_count v a1 = some (r, v2) ∧ Rl u v2)
    {r1 r2 : Nat → Nat → Int32} (h1 : d_M_firstDraft ui_M = some r1) (h2 : d_M_keepDraft r1 = some r2) (hR : Rl ui_F r2) : Vd RL nm cL_law 4 (some .boolean) room_1 (Q_law Lx xs) 600000 7302250 0 0 0 [(0, .retAddr 16)] [] [] := by
  refine v_new (k2 := 1) (n2 := 10) (b := 0) (h2 := [aO 6 [.null, .null, .null, .null, .null, .null, .null, .null, .int 0, .int 0]]) dL_law_0 nl_L_7 rfl rfl rfl rfl ⟨by decide, by decide⟩ rfl rfl ?_
  refine v_dup dL_law_3 rfl ?_
  refine v_ctorJ (ho := []) (c0 := aO 6 [.null, .null, .null, .null, .null, .null, .null, .null, .int 0, .int 0]) (c1 := aO 6 [.null, .null, .null, .null, .null, .null, .null, .null, .int 0, .int 0]) (k2 := 57) (n2 := 5150) (h2 := h_F ui_F) dL_law_4 mj_L_9 m_FireLeave_init rfl rfl rfl rfl (by decide) rfl ⟨by decide, by decide⟩ rfl rfl ⟨by decide, by decide⟩ hi_F ?_
  refine v_astore_n (i := 1) (L2 := [(1, .ref 0), (0, .retAddr 16)]) dL_law_7 rfl (Nat.le_of_ble_eq_true rfl) rfl ?_
  refine v_new (k2 := 58) (n2 := 5178) (b := 57) (h2 := h_F ui_F ++ [aO 7 [.null, .null, .null, .int 0, .null, .int 0, .int 0, .int 0, .null, .int 0, .null, .int 0, .int 0, .int 0, .int 0, .int 0, .int 0, .int 0, .long 0, .long 0, .long 0, .null, .null, .null, .null, .null, .int 0, .null]]) dL_law_8 nl_L_10 rfl rfl rfl rfl ⟨by decide, by decide⟩ rfl rfl ?_
  refine v_dup dL_law_11 rfl ?_
  refine v_ctorJ (ho := h_F ui_F) (c0 := aO 7 [.null, .null, .null, .int 0, .null, .int 0, .int 0, .int 0, .null, .int 0, .null, .int 0, .int 0, .int 0, .int 0, .int 0, .int 0, .int 0, .long 0, .long 0, .long 0, .null, .null, .null, .null, .null, .int 0, .null]) (c1 := aO 7 [.null, .null, .null, .int 0, .null, .int 0, .int 0, .int 0, .null, .int 0, .null, .int 0, .int 0, .int 0, .int 0, .int 0, .int 0, .int 0, .long 0, .long 0, .long 0, .null, .null, .null, .null, .null, .int 0, .null]) (k2 := 70) (n2 := 10812) (h2 := h_L ui_F r2 (fun _ => 0)) dL_law_12 mj_L_12 (m_FireLeaveModel_init h1 h2) rfl rfl rfl rfl (Nat.le_of_ble_eq_true rfl) rfl ⟨by decide, by decide⟩ rfl rfl ⟨by decide, by decide⟩ (hL_eq ui_F r2 (fun _ => 0)).symm ?_
  refine v_astore_n (i := 2) (L2 := [(2, .ref 57), (1, .ref 0), (0, .retAddr 16)]) dL_law_15 rfl (Nat.le_of_ble_eq_true rfl) rfl ?_
  refine v_iconst dL_law_16 ic_0 ?_
  refine v_istore_n (i := 3) (L2 := [(3, .int (nI 0)), (2, .ref 57), (1, .ref 0), (0, .retAddr 16)]) dL_law_17 rfl (Nat.le_of_ble_eq_true rfl) rfl ?_
  refine v_loc (L2 := [(0, .retAddr 16), (1, .ref 0), (2, .ref 57), (3, .int (nI 0))]) [3, 2, 1, 0] rfl ?_
  exact law_loop hL E_feed E_end E_text E_fault E_rule E_house E_alter E_set E_rain E_offer E_go E_runs E_ahead E_bare E_best E_change E_cooks E_appease E_pray E_value E_share E_luck E_mean E_see E_forget E_fits E_look E_drift E_keep E_back E_sheet E_lay E_read E_torn E_count 100 0 ui_F r2 (fun _ => 0) (by decide) (by omega) hR
